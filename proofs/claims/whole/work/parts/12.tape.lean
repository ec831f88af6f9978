set_option maxHeartbeats 4000000 in
set_option maxRecDepth 100000 in
theorem c_X9_length (l : Launch) (γ : jγ) (tp tb n : Nat) (f : Nat → Int32)  : jM (S := Unit) l γ yX9_length cX9_length 1 (some .int) ({ frames := 0, cells := 0, slots := 0, locals := 0 } : Room) [.ref tp] [(tp, .inr (9, [.ref tb, .int (nI n)])), (tb, .inl (γ.2 1, 340, .inl f))] (fun w0 => some (.int (nI n))) (fun w0 => [(tp, .inr (9, [.ref tb, .int (nI n)])), (tb, .inl (γ.2 1, 340, .inl f))]) (fun w0 => True) := by
  refine jM.of [some (.ref tp)] rfl (Nat.le_of_ble_eq_true rfl) (by decide) ?_
  intro x g hE hin
  refine J.aload_n g dX9_length_0 rfl rfl ?_
  refine J.get g jX9 1 (by decide) lf_X9_15 0 rfl rfl dX9_length_1 ?_
  exact J.iret g hE () rfl trivial rfl ⟨Nat.le_of_ble_eq_true rfl, Nat.le_of_ble_eq_true rfl⟩ dX9_length_4
set_option maxHeartbeats 4000000 in
set_option maxRecDepth 100000 in
theorem c_X9_byteAt (l : Launch) (γ : jγ) (tp tb n : Nat) (f : Nat → Int32) (i : Nat) (hn : n ≤ 340) (hi : i < n) : jM (S := Unit) l γ yX9_byteAt cX9_byteAt 2 (some .int) ({ frames := 0, cells := 0, slots := 0, locals := 0 } : Room) [.ref tp, .int (nI i)] [(tp, .inr (9, [.ref tb, .int (nI n)])), (tb, .inl (γ.2 1, 340, .inl f))] (fun w0 => some (.int (f i &&& 255))) (fun w0 => [(tp, .inr (9, [.ref tb, .int (nI n)])), (tb, .inl (γ.2 1, 340, .inl f))]) (fun w0 => True) := by
  refine jM.of [some (.ref tp), some (.int (nI i))] rfl (Nat.le_of_ble_eq_true rfl) (by decide) ?_
  intro x g hE hin
  refine J.iload_n g dX9_byteAt_0 rfl rfl ?_
  refine J.if_ltN g dX9_byteAt_1 (tgt := 34) (by decide) (by omega) ?_
  refine J.iload_n g dX9_byteAt_4 rfl rfl ?_
  refine J.aload_n g dX9_byteAt_5 rfl rfl ?_
  refine J.get g jX9 1 (by decide) lf_X9_15 0 rfl rfl dX9_byteAt_6 ?_
  refine J.icmp_geN g dX9_byteAt_9 (tgt := 34) (by decide) (by omega) (by omega) (fun c_9 => absurd c_9 (by omega)) (fun c_9 => ?_)
  refine J.iload_n g dX9_byteAt_12 rfl rfl ?_
  refine J.aload_n g dX9_byteAt_13 rfl rfl ?_
  refine J.get g jX9 0 (by decide) lf_X9_9 0 rfl rfl dX9_byteAt_14 ?_
  refine J.alen (v := nI 340) g 1 1 rfl rfl rfl dX9_byteAt_17 ?_
  refine J.icmp_geN g dX9_byteAt_18 (tgt := 34) (by decide) (by omega) (by omega) (fun c_18 => absurd c_18 (by omega)) (fun c_18 => ?_)
  refine J.aload_n g dX9_byteAt_21 rfl rfl ?_
  refine J.get g jX9 0 (by decide) lf_X9_9 0 rfl rfl dX9_byteAt_22 ?_
  refine J.iload_n g dX9_byteAt_25 rfl rfl ?_
  refine J.baldK g 1 rfl (by omega) (by decide) dX9_byteAt_26 ?_
  refine J.sipush (v := nI 255) g dX9_byteAt_27 (by decide +kernel) ?_
  refine J.iand g dX9_byteAt_30 ?_
  refine J.goto g dX9_byteAt_31 (tgt := 35) (by decide) ?_
  exact J.iret g hE () (by rw [show nI 255 = 255 from by decide +kernel]) trivial rfl ⟨Nat.le_of_ble_eq_true rfl, Nat.le_of_ble_eq_true rfl⟩ dX9_byteAt_35
set_option maxHeartbeats 4000000 in
set_option maxRecDepth 100000 in
theorem c_X9_cutTo (l : Launch) (γ : jγ) (tp tb n : Nat) (f : Nat → Int32) (i : Int32) (hn : n ≤ 340) : jM (S := Unit) l γ yX9_cutTo cX9_cutTo 2 (some .boolean) ({ frames := 0, cells := 0, slots := 0, locals := 0 } : Room) [.ref tp, .int i] [(tp, .inr (9, [.ref tb, .int (nI n)])), (tb, .inl (γ.2 1, 340, .inl f))] (fun w0 => some (.int (jB (jcut i n)))) (fun w0 => [(tp, .inr (9, [.ref tb, .int (nI (jcutn i n))])), (tb, .inl (γ.2 1, 340, .inl f))]) (fun w0 => True) := by
  refine jM.of [some (.ref tp), some (.int i)] rfl (Nat.le_of_ble_eq_true rfl) (by decide) ?_
  intro x g hE hin
  refine J.iload_n g dX9_cutTo_0 rfl rfl ?_
  refine J.if_lt g dX9_cutTo_1 (tgt := 12) (by decide) (fun c_1 => ?_) (fun c_1 => ?_)
  · refine J.iconstN g 0 dX9_cutTo_12 ?_
    exact J.zret (by first | rfl | exact j_nz _) g hE () (jB_f (by first | exact jcut_1 c_1 | exact jcut_2 c_9 | exact jcut_3 c_1 c_9)) trivial (by first | rw [jcutn_f (jcut_1 c_1)] | rw [jcutn_f (jcut_2 c_9)]) ⟨Nat.le_of_ble_eq_true rfl, Nat.le_of_ble_eq_true rfl⟩ dX9_cutTo_13
  · refine J.iload_n g dX9_cutTo_4 rfl rfl ?_
    refine J.aload_n g dX9_cutTo_5 rfl rfl ?_
    refine J.get g jX9 1 (by decide) lf_X9_15 0 rfl rfl dX9_cutTo_6 ?_
    refine J.icmp_le g dX9_cutTo_9 (tgt := 14) (by decide) (fun c_9 => ?_) (fun c_9 => ?_)
    · refine J.aload_n g dX9_cutTo_14 rfl rfl ?_
      refine J.iload_n g dX9_cutTo_15 rfl rfl ?_
      refine J.put g jX9 1 (by decide) lf_X9_15 0 rfl rfl (Nat.le_of_ble_eq_true rfl) rfl rfl dX9_cutTo_16 ?_
      try dsimp only [List.set_cons_zero, List.set_cons_succ]
      refine J.iconstN g 1 dX9_cutTo_19 ?_
      exact J.zret (by first | rfl | exact j_nz _) g hE () (jB_t (by first | exact jcut_1 c_1 | exact jcut_2 c_9 | exact jcut_3 c_1 c_9)) trivial (by rw [jcutn_t c_1 c_9]) ⟨Nat.le_of_ble_eq_true rfl, Nat.le_of_ble_eq_true rfl⟩ dX9_cutTo_20
    · refine J.iconstN g 0 dX9_cutTo_12 ?_
      exact J.zret (by first | rfl | exact j_nz _) g hE () (jB_f (by first | exact jcut_1 c_1 | exact jcut_2 c_9 | exact jcut_3 c_1 c_9)) trivial (by first | rw [jcutn_f (jcut_1 c_1)] | rw [jcutn_f (jcut_2 c_9)]) ⟨Nat.le_of_ble_eq_true rfl, Nat.le_of_ble_eq_true rfl⟩ dX9_cutTo_13
set_option maxHeartbeats 4000000 in
set_option maxRecDepth 100000 in
theorem c_X9_appendNumber (l : Launch) (γ : jγ) (tp tb n : Nat) (f : Nat → Int32) (v : Int32) (hn : n + 4 ≤ 340) : jM (S := Nat → Int32) l γ yX9_appendNumber cX9_appendNumber 3 none ({ frames := 0, cells := 0, slots := 0, locals := 0 } : Room) [.ref tp, .int v] [(tp, .inr (9, [.ref tb, .int (nI n)])), (tb, .inl (γ.2 1, 340, .inl f))] (fun u => none) (fun u => [(tp, .inr (9, [.ref tb, .int (nI (n + 4))])), (tb, .inl (γ.2 1, 340, .inl u))]) (fun u => ∀ j, u j = if j < n then f j else if j < n + 4 then jby v (j - n) else f j) := by
  refine jM.of [some (.ref tp), some (.int v), none] rfl (Nat.le_of_ble_eq_true rfl) (by decide) ?_
  intro x g hE hin
  refine J.bipush (v := nI 24) g dX9_appendNumber_0 (by decide +kernel) ?_
  refine J.istore_n g dX9_appendNumber_2 rfl rfl rfl ?_
  try dsimp only [List.set_cons_zero, List.set_cons_succ]
  refine J.iload_n g dX9_appendNumber_3 rfl rfl ?_
  refine J.if_ltN g dX9_appendNumber_4 (tgt := 55) (by decide) (by omega) ?_
  refine J.aload_n g dX9_appendNumber_7 rfl rfl ?_
  refine J.get g jX9 1 (by decide) lf_X9_15 0 rfl rfl dX9_appendNumber_8 ?_
  refine J.if_ltN g dX9_appendNumber_11 (tgt := 49) (by decide) (by omega) ?_
  refine J.aload_n g dX9_appendNumber_14 rfl rfl ?_
  refine J.get g jX9 1 (by decide) lf_X9_15 0 rfl rfl dX9_appendNumber_15 ?_
  refine J.aload_n g dX9_appendNumber_18 rfl rfl ?_
  refine J.get g jX9 0 (by decide) lf_X9_9 0 rfl rfl dX9_appendNumber_19 ?_
  refine J.alen (v := nI 340) g 1 1 rfl rfl rfl dX9_appendNumber_22 ?_
  refine J.icmp_geN g dX9_appendNumber_23 (tgt := 49) (by decide) (by omega) (by omega) (fun c_23 => absurd c_23 (by omega)) (fun c_23 => ?_)
  refine J.aload_n g dX9_appendNumber_26 rfl rfl ?_
  refine J.get g jX9 0 (by decide) lf_X9_9 0 rfl rfl dX9_appendNumber_27 ?_
  refine J.aload_n g dX9_appendNumber_30 rfl rfl ?_
  refine J.get g jX9 1 (by decide) lf_X9_15 0 rfl rfl dX9_appendNumber_31 ?_
  refine J.iload_n g dX9_appendNumber_34 rfl rfl ?_
  refine J.iload_n g dX9_appendNumber_35 rfl rfl ?_
  refine J.iushr g dX9_appendNumber_36 rfl ?_
  refine J.i2b g dX9_appendNumber_37 rfl ?_
  refine J.bastK g 1 rfl (by omega) (by decide) (pk_vb _) dX9_appendNumber_38 ?_
  try dsimp only [List.set_cons_zero, List.set_cons_succ]
  refine J.aload_n g dX9_appendNumber_39 rfl rfl ?_
  refine J.dup g dX9_appendNumber_40 rfl ?_
  refine J.get g jX9 1 (by decide) lf_X9_15 0 rfl rfl dX9_appendNumber_41 ?_
  refine J.iconstN g 1 dX9_appendNumber_44 ?_
  refine J.iaddN g dX9_appendNumber_45 ?_
  refine J.put g jX9 1 (by decide) lf_X9_15 0 rfl rfl (Nat.le_of_ble_eq_true rfl) rfl rfl dX9_appendNumber_46 ?_
  try dsimp only [List.set_cons_zero, List.set_cons_succ]
  refine J.iinc (v := nI 16) g dX9_appendNumber_49 rfl rfl (by decide +kernel) ?_
  try dsimp only [List.set_cons_zero, List.set_cons_succ]
  refine J.goto g dX9_appendNumber_52 (tgt := 3) (by decide) ?_
  refine J.iload_n g dX9_appendNumber_3 rfl rfl ?_
  refine J.if_ltN g dX9_appendNumber_4 (tgt := 55) (by decide) (by omega) ?_
  refine J.aload_n g dX9_appendNumber_7 rfl rfl ?_
  refine J.get g jX9 1 (by decide) lf_X9_15 0 rfl rfl dX9_appendNumber_8 ?_
  refine J.if_ltN g dX9_appendNumber_11 (tgt := 49) (by decide) (by omega) ?_
  refine J.aload_n g dX9_appendNumber_14 rfl rfl ?_
  refine J.get g jX9 1 (by decide) lf_X9_15 0 rfl rfl dX9_appendNumber_15 ?_
  refine J.aload_n g dX9_appendNumber_18 rfl rfl ?_
  refine J.get g jX9 0 (by decide) lf_X9_9 0 rfl rfl dX9_appendNumber_19 ?_
  refine J.alen (v := nI 340) g 1 1 rfl rfl rfl dX9_appendNumber_22 ?_
  refine J.icmp_geN g dX9_appendNumber_23 (tgt := 49) (by decide) (by omega) (by omega) (fun c_23 => absurd c_23 (by omega)) (fun c_23 => ?_)
  refine J.aload_n g dX9_appendNumber_26 rfl rfl ?_
  refine J.get g jX9 0 (by decide) lf_X9_9 0 rfl rfl dX9_appendNumber_27 ?_
  refine J.aload_n g dX9_appendNumber_30 rfl rfl ?_
  refine J.get g jX9 1 (by decide) lf_X9_15 0 rfl rfl dX9_appendNumber_31 ?_
  refine J.iload_n g dX9_appendNumber_34 rfl rfl ?_
  refine J.iload_n g dX9_appendNumber_35 rfl rfl ?_
  refine J.iushr g dX9_appendNumber_36 rfl ?_
  refine J.i2b g dX9_appendNumber_37 rfl ?_
  refine J.bastK g 1 rfl (by omega) (by decide) (pk_vb _) dX9_appendNumber_38 ?_
  try dsimp only [List.set_cons_zero, List.set_cons_succ]
  refine J.aload_n g dX9_appendNumber_39 rfl rfl ?_
  refine J.dup g dX9_appendNumber_40 rfl ?_
  refine J.get g jX9 1 (by decide) lf_X9_15 0 rfl rfl dX9_appendNumber_41 ?_
  refine J.iconstN g 1 dX9_appendNumber_44 ?_
  refine J.iaddN g dX9_appendNumber_45 ?_
  refine J.put g jX9 1 (by decide) lf_X9_15 0 rfl rfl (Nat.le_of_ble_eq_true rfl) rfl rfl dX9_appendNumber_46 ?_
  try dsimp only [List.set_cons_zero, List.set_cons_succ]
  refine J.iinc (v := nI 8) g dX9_appendNumber_49 rfl rfl (by decide +kernel) ?_
  try dsimp only [List.set_cons_zero, List.set_cons_succ]
  refine J.goto g dX9_appendNumber_52 (tgt := 3) (by decide) ?_
  refine J.iload_n g dX9_appendNumber_3 rfl rfl ?_
  refine J.if_ltN g dX9_appendNumber_4 (tgt := 55) (by decide) (by omega) ?_
  refine J.aload_n g dX9_appendNumber_7 rfl rfl ?_
  refine J.get g jX9 1 (by decide) lf_X9_15 0 rfl rfl dX9_appendNumber_8 ?_
  refine J.if_ltN g dX9_appendNumber_11 (tgt := 49) (by decide) (by omega) ?_
  refine J.aload_n g dX9_appendNumber_14 rfl rfl ?_
  refine J.get g jX9 1 (by decide) lf_X9_15 0 rfl rfl dX9_appendNumber_15 ?_
  refine J.aload_n g dX9_appendNumber_18 rfl rfl ?_
  refine J.get g jX9 0 (by decide) lf_X9_9 0 rfl rfl dX9_appendNumber_19 ?_
  refine J.alen (v := nI 340) g 1 1 rfl rfl rfl dX9_appendNumber_22 ?_
  refine J.icmp_geN g dX9_appendNumber_23 (tgt := 49) (by decide) (by omega) (by omega) (fun c_23 => absurd c_23 (by omega)) (fun c_23 => ?_)
  refine J.aload_n g dX9_appendNumber_26 rfl rfl ?_
  refine J.get g jX9 0 (by decide) lf_X9_9 0 rfl rfl dX9_appendNumber_27 ?_
  refine J.aload_n g dX9_appendNumber_30 rfl rfl ?_
  refine J.get g jX9 1 (by decide) lf_X9_15 0 rfl rfl dX9_appendNumber_31 ?_
  refine J.iload_n g dX9_appendNumber_34 rfl rfl ?_
  refine J.iload_n g dX9_appendNumber_35 rfl rfl ?_
  refine J.iushr g dX9_appendNumber_36 rfl ?_
  refine J.i2b g dX9_appendNumber_37 rfl ?_
  refine J.bastK g 1 rfl (by omega) (by decide) (pk_vb _) dX9_appendNumber_38 ?_
  try dsimp only [List.set_cons_zero, List.set_cons_succ]
  refine J.aload_n g dX9_appendNumber_39 rfl rfl ?_
  refine J.dup g dX9_appendNumber_40 rfl ?_
  refine J.get g jX9 1 (by decide) lf_X9_15 0 rfl rfl dX9_appendNumber_41 ?_
  refine J.iconstN g 1 dX9_appendNumber_44 ?_
  refine J.iaddN g dX9_appendNumber_45 ?_
  refine J.put g jX9 1 (by decide) lf_X9_15 0 rfl rfl (Nat.le_of_ble_eq_true rfl) rfl rfl dX9_appendNumber_46 ?_
  try dsimp only [List.set_cons_zero, List.set_cons_succ]
  refine J.iinc (v := nI 0) g dX9_appendNumber_49 rfl rfl (by decide +kernel) ?_
  try dsimp only [List.set_cons_zero, List.set_cons_succ]
  refine J.goto g dX9_appendNumber_52 (tgt := 3) (by decide) ?_
  refine J.iload_n g dX9_appendNumber_3 rfl rfl ?_
  refine J.if_ltN g dX9_appendNumber_4 (tgt := 55) (by decide) (by omega) ?_
  refine J.aload_n g dX9_appendNumber_7 rfl rfl ?_
  refine J.get g jX9 1 (by decide) lf_X9_15 0 rfl rfl dX9_appendNumber_8 ?_
  refine J.if_ltN g dX9_appendNumber_11 (tgt := 49) (by decide) (by omega) ?_
  refine J.aload_n g dX9_appendNumber_14 rfl rfl ?_
  refine J.get g jX9 1 (by decide) lf_X9_15 0 rfl rfl dX9_appendNumber_15 ?_
  refine J.aload_n g dX9_appendNumber_18 rfl rfl ?_
  refine J.get g jX9 0 (by decide) lf_X9_9 0 rfl rfl dX9_appendNumber_19 ?_
  refine J.alen (v := nI 340) g 1 1 rfl rfl rfl dX9_appendNumber_22 ?_
  refine J.icmp_geN g dX9_appendNumber_23 (tgt := 49) (by decide) (by omega) (by omega) (fun c_23 => absurd c_23 (by omega)) (fun c_23 => ?_)
  refine J.aload_n g dX9_appendNumber_26 rfl rfl ?_
  refine J.get g jX9 0 (by decide) lf_X9_9 0 rfl rfl dX9_appendNumber_27 ?_
  refine J.aload_n g dX9_appendNumber_30 rfl rfl ?_
  refine J.get g jX9 1 (by decide) lf_X9_15 0 rfl rfl dX9_appendNumber_31 ?_
  refine J.iload_n g dX9_appendNumber_34 rfl rfl ?_
  refine J.iload_n g dX9_appendNumber_35 rfl rfl ?_
  refine J.iushr g dX9_appendNumber_36 rfl ?_
  refine J.i2b g dX9_appendNumber_37 rfl ?_
  refine J.bastK g 1 rfl (by omega) (by decide) (pk_vb _) dX9_appendNumber_38 ?_
  try dsimp only [List.set_cons_zero, List.set_cons_succ]
  refine J.aload_n g dX9_appendNumber_39 rfl rfl ?_
  refine J.dup g dX9_appendNumber_40 rfl ?_
  refine J.get g jX9 1 (by decide) lf_X9_15 0 rfl rfl dX9_appendNumber_41 ?_
  refine J.iconstN g 1 dX9_appendNumber_44 ?_
  refine J.iaddN g dX9_appendNumber_45 ?_
  refine J.put g jX9 1 (by decide) lf_X9_15 0 rfl rfl (Nat.le_of_ble_eq_true rfl) rfl rfl dX9_appendNumber_46 ?_
  try dsimp only [List.set_cons_zero, List.set_cons_succ]
  refine J.iinc (v := -8) g dX9_appendNumber_49 rfl rfl (by decide +kernel) ?_
  try dsimp only [List.set_cons_zero, List.set_cons_succ]
  refine J.goto g dX9_appendNumber_52 (tgt := 3) (by decide) ?_
  refine J.iload_n g dX9_appendNumber_3 rfl rfl ?_
  refine J.if_lt g dX9_appendNumber_4 (tgt := 55) (by decide) (fun _ => ?_) (fun q => absurd (by decide) q)
  exact J.vret g hE _ rfl (jap_post f n v) rfl ⟨Nat.le_of_ble_eq_true rfl, Nat.le_of_ble_eq_true rfl⟩ dX9_appendNumber_55
set_option maxHeartbeats 4000000 in
set_option maxRecDepth 100000 in
theorem c_X4_length (l : Launch) (γ : jγ) (pa rq nx pl : Nat)  : jM (S := Unit) l γ yX4_length cX4_length 1 (some .int) ({ frames := 0, cells := 0, slots := 0, locals := 0 } : Room) [.ref pa] [(pa, .inr (4, [.ref rq, .int (nI nx), .int (nI pl)]))] (fun w0 => some (.int (nI pl))) (fun w0 => [(pa, .inr (4, [.ref rq, .int (nI nx), .int (nI pl)]))]) (fun w0 => True) := by
  refine jM.of [some (.ref pa)] rfl (Nat.le_of_ble_eq_true rfl) (by decide) ?_
  intro x g hE hin
  refine J.aload_n g dX4_length_0 rfl rfl ?_
  refine J.get g jX4 2 (by decide) lf_X4_21 0 rfl rfl dX4_length_1 ?_
  exact J.iret g hE () rfl trivial rfl ⟨Nat.le_of_ble_eq_true rfl, Nat.le_of_ble_eq_true rfl⟩ dX4_length_4
set_option maxHeartbeats 4000000 in
set_option maxRecDepth 100000 in
theorem c_X4_forget (l : Launch) (γ : jγ) (pa rq nx pl : Nat)  : jM (S := Unit) l γ yX4_forget cX4_forget 1 none ({ frames := 0, cells := 0, slots := 0, locals := 0 } : Room) [.ref pa] [(pa, .inr (4, [.ref rq, .int (nI nx), .int (nI pl)]))] (fun w0 => none) (fun w0 => [(pa, .inr (4, [.ref rq, .int (nI nx), .int (nI 0)]))]) (fun w0 => True) := by
  refine jM.of [some (.ref pa)] rfl (Nat.le_of_ble_eq_true rfl) (by decide) ?_
  intro x g hE hin
  refine J.aload_n g dX4_forget_0 rfl rfl ?_
  refine J.iconstN g 0 dX4_forget_1 ?_
  refine J.put g jX4 2 (by decide) lf_X4_21 0 rfl rfl (Nat.le_of_ble_eq_true rfl) rfl rfl dX4_forget_2 ?_
  try dsimp only [List.set_cons_zero, List.set_cons_succ]
  exact J.vret g hE () rfl trivial rfl ⟨Nat.le_of_ble_eq_true rfl, Nat.le_of_ble_eq_true rfl⟩ dX4_forget_5
set_option maxHeartbeats 4000000 in
set_option maxRecDepth 100000 in
theorem c_X4_rowAt (l : Launch) (γ : jγ) (pa rq nx pl : Nat) (ra : Nat → Nat) (i : Nat) (hi : i < 8) : jM (S := Unit) l γ yX4_rowAt cX4_rowAt 2 (some (.object "NoughtSums$Row")) ({ frames := 0, cells := 0, slots := 0, locals := 0 } : Room) [.ref pa, .int (nI i)] [(pa, .inr (4, [.ref rq, .int (nI nx), .int (nI pl)])), (rq, .inl (γ.2 5, 8, .inr (.inr (.inr (.inr (fun i => some (ra i)))))))] (fun w0 => some (.ref (ra i))) (fun w0 => [(pa, .inr (4, [.ref rq, .int (nI nx), .int (nI pl)])), (rq, .inl (γ.2 5, 8, .inr (.inr (.inr (.inr (fun i => some (ra i)))))))]) (fun w0 => True) := by
  refine jM.of [some (.ref pa), some (.int (nI i))] rfl (Nat.le_of_ble_eq_true rfl) (by decide) ?_
  intro x g hE hin
  refine J.iload_n g dX4_rowAt_0 rfl rfl ?_
  refine J.if_ltN g dX4_rowAt_1 (tgt := 22) (by decide) (by omega) ?_
  refine J.iload_n g dX4_rowAt_4 rfl rfl ?_
  refine J.aload_n g dX4_rowAt_5 rfl rfl ?_
  refine J.get g jX4 0 (by decide) lf_X4_11 0 rfl rfl dX4_rowAt_6 ?_
  refine J.alen (v := nI 8) g 1 5 rfl rfl rfl dX4_rowAt_9 ?_
  refine J.icmp_geN g dX4_rowAt_10 (tgt := 22) (by decide) (by omega) (by omega) (fun c_10 => absurd c_10 (by omega)) (fun c_10 => ?_)
  refine J.aload_n g dX4_rowAt_13 rfl rfl ?_
  refine J.get g jX4 0 (by decide) lf_X4_11 0 rfl rfl dX4_rowAt_14 ?_
  refine J.iload_n g dX4_rowAt_17 rfl rfl ?_
  refine J.qaldK (r := (ra i)) g 1 5 rfl rfl rfl (by omega) (by decide) rfl dX4_rowAt_18 ?_
  refine J.goto g dX4_rowAt_19 (tgt := 23) (by decide) ?_
  exact J.aret (Or.inr ⟨_, rfl⟩) g hE () rfl trivial rfl ⟨Nat.le_of_ble_eq_true rfl, Nat.le_of_ble_eq_true rfl⟩ dX4_rowAt_23
set_option maxHeartbeats 4000000 in
set_option maxRecDepth 100000 in
theorem c_X4_keep (l : Launch) (γ : jγ) (pa rq nx pl : Nat) (ra re ln : Nat → Nat) (rf : Nat → Nat → Nat) (a e n : Nat) (f : Nat → Nat) (hx : nx < 8) (hp : pl ≤ 8) (hn : n ≤ 12) : jM (S := Nat → Nat) l γ yX4_keep cX4_keep 3 none ({ frames := 1, cells := 0, slots := 0, locals := 24 } : Room) [.ref pa, .ref a] [(pa, .inr (4, [.ref rq, .int (nI nx), .int (nI pl)])), (rq, .inl (γ.2 5, 8, .inr (.inr (.inr (.inr (fun i => some (ra i))))))), ((ra 0), .inr (6, [.ref (re 0), .int (nI (ln 0))])), ((re 0), .inl (γ.2 0, 12, .inl (fun j => nI ((rf 0) j)))), ((ra 1), .inr (6, [.ref (re 1), .int (nI (ln 1))])), ((re 1), .inl (γ.2 0, 12, .inl (fun j => nI ((rf 1) j)))), ((ra 2), .inr (6, [.ref (re 2), .int (nI (ln 2))])), ((re 2), .inl (γ.2 0, 12, .inl (fun j => nI ((rf 2) j)))), ((ra 3), .inr (6, [.ref (re 3), .int (nI (ln 3))])), ((re 3), .inl (γ.2 0, 12, .inl (fun j => nI ((rf 3) j)))), ((ra 4), .inr (6, [.ref (re 4), .int (nI (ln 4))])), ((re 4), .inl (γ.2 0, 12, .inl (fun j => nI ((rf 4) j)))), ((ra 5), .inr (6, [.ref (re 5), .int (nI (ln 5))])), ((re 5), .inl (γ.2 0, 12, .inl (fun j => nI ((rf 5) j)))), ((ra 6), .inr (6, [.ref (re 6), .int (nI (ln 6))])), ((re 6), .inl (γ.2 0, 12, .inl (fun j => nI ((rf 6) j)))), ((ra 7), .inr (6, [.ref (re 7), .int (nI (ln 7))])), ((re 7), .inl (γ.2 0, 12, .inl (fun j => nI ((rf 7) j)))), (a, .inr (6, [.ref e, .int (nI n)])), (e, .inl (γ.2 0, 12, .inl (fun j => nI (f j))))] (fun u => none) (fun u => [(pa, .inr (4, [.ref rq, .int (nI (if nx + 1 < 8 then nx + 1 else 0)), .int (nI (if 8 < pl + 1 then 8 else pl + 1))])), (rq, .inl (γ.2 5, 8, .inr (.inr (.inr (.inr (fun i => some (ra i))))))), ((ra 0), .inr (6, [.ref (re 0), .int (nI ((va_up ln nx n) 0))])), ((re 0), .inl (γ.2 0, 12, .inl (fun j => nI (((va_up rf nx u) 0) j)))), ((ra 1), .inr (6, [.ref (re 1), .int (nI ((va_up ln nx n) 1))])), ((re 1), .inl (γ.2 0, 12, .inl (fun j => nI (((va_up rf nx u) 1) j)))), ((ra 2), .inr (6, [.ref (re 2), .int (nI ((va_up ln nx n) 2))])), ((re 2), .inl (γ.2 0, 12, .inl (fun j => nI (((va_up rf nx u) 2) j)))), ((ra 3), .inr (6, [.ref (re 3), .int (nI ((va_up ln nx n) 3))])), ((re 3), .inl (γ.2 0, 12, .inl (fun j => nI (((va_up rf nx u) 3) j)))), ((ra 4), .inr (6, [.ref (re 4), .int (nI ((va_up ln nx n) 4))])), ((re 4), .inl (γ.2 0, 12, .inl (fun j => nI (((va_up rf nx u) 4) j)))), ((ra 5), .inr (6, [.ref (re 5), .int (nI ((va_up ln nx n) 5))])), ((re 5), .inl (γ.2 0, 12, .inl (fun j => nI (((va_up rf nx u) 5) j)))), ((ra 6), .inr (6, [.ref (re 6), .int (nI ((va_up ln nx n) 6))])), ((re 6), .inl (γ.2 0, 12, .inl (fun j => nI (((va_up rf nx u) 6) j)))), ((ra 7), .inr (6, [.ref (re 7), .int (nI ((va_up ln nx n) 7))])), ((re 7), .inl (γ.2 0, 12, .inl (fun j => nI (((va_up rf nx u) 7) j)))), (a, .inr (6, [.ref e, .int (nI n)])), (e, .inl (γ.2 0, 12, .inl (fun j => nI (f j))))]) (fun u => ∀ k, k < n → u k = f k) := by
  refine jM.of [some (.ref pa), some (.ref a), none] rfl (Nat.le_of_ble_eq_true rfl) (by decide) ?_
  intro x g hE hin
  rcases (show nx = 0 ∨ nx = 1 ∨ nx = 2 ∨ nx = 3 ∨ nx = 4 ∨ nx = 5 ∨ nx = 6 ∨ nx = 7 by omega) with rfl | rfl | rfl | rfl | rfl | rfl | rfl | rfl
  · refine J.aload_n g dX4_keep_0 rfl rfl ?_
    refine J.aload_n g dX4_keep_1 rfl rfl ?_
    refine J.get g jX4 1 (by decide) lf_X4_17 0 rfl rfl dX4_keep_2 ?_
    refine J.callV0 g (c_X4_rowAt l γ _ _ _ _ _ _ (by omega)) jy_X4_rowAt lm_X4_25 (q0 := 0) rfl jX4.1 ⟨⟨Nat.le_of_ble_eq_true rfl, Nat.le_of_ble_eq_true rfl⟩, Nat.le_of_ble_eq_true rfl, Nat.le_of_ble_eq_true rfl⟩ (Nat.le_of_ble_eq_true rfl) rfl [0, 1] rfl rfl dX4_keep_5 ?_
    intro _ _
    dsimp only [jpush]
    refine J.astore_n g dX4_keep_8 rfl rfl rfl ?_
    try dsimp only [List.set_cons_zero, List.set_cons_succ]
    refine J.aload_n g dX4_keep_9 rfl rfl ?_
    refine J.ifnonnull g dX4_keep_10 (tgt := 14) (by decide) ?_
    refine J.aload_n g dX4_keep_14 rfl rfl ?_
    refine J.aload_n g dX4_keep_15 rfl rfl ?_
    refine J.callV g (c_X6_copyFrom l γ _ _ _ _ _ _ _ _ (by omega)) jy_X6_copyFrom lm_X4_29 (q0 := 2) rfl jX6.1 ⟨⟨Nat.le_of_ble_eq_true rfl, Nat.le_of_ble_eq_true rfl⟩, Nat.le_of_ble_eq_true rfl, Nat.le_of_ble_eq_true rfl⟩ (Nat.le_of_ble_eq_true rfl) rfl [2, 3, 18, 19] rfl (fun _ => rfl) rfl dX4_keep_16 ?_
    intro u_16 h_16
    dsimp only [jput, List.set_cons_zero, List.set_cons_succ, Option.toList, List.append, List.cons_append, List.nil_append, List.append_nil]
    refine J.aload_n g dX4_keep_19 rfl rfl ?_
    refine J.aload_n g dX4_keep_20 rfl rfl ?_
    refine J.get g jX4 1 (by decide) lf_X4_17 0 rfl rfl dX4_keep_21 ?_
    refine J.iconstN g 1 dX4_keep_24 ?_
    refine J.iaddN g dX4_keep_25 ?_
    refine J.bipush (v := nI 8) g dX4_keep_26 (by decide +kernel) ?_
    refine J.icmp_geN g dX4_keep_28 (tgt := 40) (by decide) (by omega) (by omega) (fun c_28 => absurd c_28 (by omega)) (fun c_28 => ?_)
    refine J.aload_n g dX4_keep_31 rfl rfl ?_
    refine J.get g jX4 1 (by decide) lf_X4_17 0 rfl rfl dX4_keep_32 ?_
    refine J.iconstN g 1 dX4_keep_35 ?_
    refine J.iaddN g dX4_keep_36 ?_
    refine J.goto g dX4_keep_37 (tgt := 41) (by decide) ?_
    refine J.put g jX4 1 (by decide) lf_X4_17 0 rfl rfl (Nat.le_of_ble_eq_true rfl) rfl rfl dX4_keep_41 ?_
    try dsimp only [List.set_cons_zero, List.set_cons_succ]
    refine J.aload_n g dX4_keep_44 rfl rfl ?_
    refine J.aload_n g dX4_keep_45 rfl rfl ?_
    refine J.get g jX4 2 (by decide) lf_X4_21 0 rfl rfl dX4_keep_46 ?_
    refine J.iconstN g 1 dX4_keep_49 ?_
    refine J.iaddN g dX4_keep_50 ?_
    refine J.bipush (v := nI 8) g dX4_keep_51 (by decide +kernel) ?_
    refine J.mmin g lm_X4_33 jm_min_s jm_i jm_min_c ⟨Nat.le_of_ble_eq_true rfl, Nat.le_of_ble_eq_true rfl, Nat.le_of_ble_eq_true rfl, Nat.le_of_ble_eq_true rfl⟩ (j_min8 hp) dX4_keep_53 ?_
    refine J.put g jX4 2 (by decide) lf_X4_21 0 rfl rfl (Nat.le_of_ble_eq_true rfl) rfl rfl dX4_keep_56 ?_
    try dsimp only [List.set_cons_zero, List.set_cons_succ]
    exact J.vret g hE u_16 rfl h_16 rfl ⟨Nat.le_of_ble_eq_true rfl, Nat.le_of_ble_eq_true rfl⟩ dX4_keep_59
  · refine J.aload_n g dX4_keep_0 rfl rfl ?_
    refine J.aload_n g dX4_keep_1 rfl rfl ?_
    refine J.get g jX4 1 (by decide) lf_X4_17 0 rfl rfl dX4_keep_2 ?_
    refine J.callV0 g (c_X4_rowAt l γ _ _ _ _ _ _ (by omega)) jy_X4_rowAt lm_X4_25 (q0 := 0) rfl jX4.1 ⟨⟨Nat.le_of_ble_eq_true rfl, Nat.le_of_ble_eq_true rfl⟩, Nat.le_of_ble_eq_true rfl, Nat.le_of_ble_eq_true rfl⟩ (Nat.le_of_ble_eq_true rfl) rfl [0, 1] rfl rfl dX4_keep_5 ?_
    intro _ _
    dsimp only [jpush]
    refine J.astore_n g dX4_keep_8 rfl rfl rfl ?_
    try dsimp only [List.set_cons_zero, List.set_cons_succ]
    refine J.aload_n g dX4_keep_9 rfl rfl ?_
    refine J.ifnonnull g dX4_keep_10 (tgt := 14) (by decide) ?_
    refine J.aload_n g dX4_keep_14 rfl rfl ?_
    refine J.aload_n g dX4_keep_15 rfl rfl ?_
    refine J.callV g (c_X6_copyFrom l γ _ _ _ _ _ _ _ _ (by omega)) jy_X6_copyFrom lm_X4_29 (q0 := 4) rfl jX6.1 ⟨⟨Nat.le_of_ble_eq_true rfl, Nat.le_of_ble_eq_true rfl⟩, Nat.le_of_ble_eq_true rfl, Nat.le_of_ble_eq_true rfl⟩ (Nat.le_of_ble_eq_true rfl) rfl [4, 5, 18, 19] rfl (fun _ => rfl) rfl dX4_keep_16 ?_
    intro u_16 h_16
    dsimp only [jput, List.set_cons_zero, List.set_cons_succ, Option.toList, List.append, List.cons_append, List.nil_append, List.append_nil]
    refine J.aload_n g dX4_keep_19 rfl rfl ?_
    refine J.aload_n g dX4_keep_20 rfl rfl ?_
    refine J.get g jX4 1 (by decide) lf_X4_17 0 rfl rfl dX4_keep_21 ?_
    refine J.iconstN g 1 dX4_keep_24 ?_
    refine J.iaddN g dX4_keep_25 ?_
    refine J.bipush (v := nI 8) g dX4_keep_26 (by decide +kernel) ?_
    refine J.icmp_geN g dX4_keep_28 (tgt := 40) (by decide) (by omega) (by omega) (fun c_28 => absurd c_28 (by omega)) (fun c_28 => ?_)
    refine J.aload_n g dX4_keep_31 rfl rfl ?_
    refine J.get g jX4 1 (by decide) lf_X4_17 0 rfl rfl dX4_keep_32 ?_
    refine J.iconstN g 1 dX4_keep_35 ?_
    refine J.iaddN g dX4_keep_36 ?_
    refine J.goto g dX4_keep_37 (tgt := 41) (by decide) ?_
    refine J.put g jX4 1 (by decide) lf_X4_17 0 rfl rfl (Nat.le_of_ble_eq_true rfl) rfl rfl dX4_keep_41 ?_
    try dsimp only [List.set_cons_zero, List.set_cons_succ]
    refine J.aload_n g dX4_keep_44 rfl rfl ?_
    refine J.aload_n g dX4_keep_45 rfl rfl ?_
    refine J.get g jX4 2 (by decide) lf_X4_21 0 rfl rfl dX4_keep_46 ?_
    refine J.iconstN g 1 dX4_keep_49 ?_
    refine J.iaddN g dX4_keep_50 ?_
    refine J.bipush (v := nI 8) g dX4_keep_51 (by decide +kernel) ?_
    refine J.mmin g lm_X4_33 jm_min_s jm_i jm_min_c ⟨Nat.le_of_ble_eq_true rfl, Nat.le_of_ble_eq_true rfl, Nat.le_of_ble_eq_true rfl, Nat.le_of_ble_eq_true rfl⟩ (j_min8 hp) dX4_keep_53 ?_
    refine J.put g jX4 2 (by decide) lf_X4_21 0 rfl rfl (Nat.le_of_ble_eq_true rfl) rfl rfl dX4_keep_56 ?_
    try dsimp only [List.set_cons_zero, List.set_cons_succ]
    exact J.vret g hE u_16 rfl h_16 rfl ⟨Nat.le_of_ble_eq_true rfl, Nat.le_of_ble_eq_true rfl⟩ dX4_keep_59
  · refine J.aload_n g dX4_keep_0 rfl rfl ?_
    refine J.aload_n g dX4_keep_1 rfl rfl ?_
    refine J.get g jX4 1 (by decide) lf_X4_17 0 rfl rfl dX4_keep_2 ?_
    refine J.callV0 g (c_X4_rowAt l γ _ _ _ _ _ _ (by omega)) jy_X4_rowAt lm_X4_25 (q0 := 0) rfl jX4.1 ⟨⟨Nat.le_of_ble_eq_true rfl, Nat.le_of_ble_eq_true rfl⟩, Nat.le_of_ble_eq_true rfl, Nat.le_of_ble_eq_true rfl⟩ (Nat.le_of_ble_eq_true rfl) rfl [0, 1] rfl rfl dX4_keep_5 ?_
    intro _ _
    dsimp only [jpush]
    refine J.astore_n g dX4_keep_8 rfl rfl rfl ?_
    try dsimp only [List.set_cons_zero, List.set_cons_succ]
    refine J.aload_n g dX4_keep_9 rfl rfl ?_
    refine J.ifnonnull g dX4_keep_10 (tgt := 14) (by decide) ?_
    refine J.aload_n g dX4_keep_14 rfl rfl ?_
    refine J.aload_n g dX4_keep_15 rfl rfl ?_
    refine J.callV g (c_X6_copyFrom l γ _ _ _ _ _ _ _ _ (by omega)) jy_X6_copyFrom lm_X4_29 (q0 := 6) rfl jX6.1 ⟨⟨Nat.le_of_ble_eq_true rfl, Nat.le_of_ble_eq_true rfl⟩, Nat.le_of_ble_eq_true rfl, Nat.le_of_ble_eq_true rfl⟩ (Nat.le_of_ble_eq_true rfl) rfl [6, 7, 18, 19] rfl (fun _ => rfl) rfl dX4_keep_16 ?_
    intro u_16 h_16
    dsimp only [jput, List.set_cons_zero, List.set_cons_succ, Option.toList, List.append, List.cons_append, List.nil_append, List.append_nil]
    refine J.aload_n g dX4_keep_19 rfl rfl ?_
    refine J.aload_n g dX4_keep_20 rfl rfl ?_
    refine J.get g jX4 1 (by decide) lf_X4_17 0 rfl rfl dX4_keep_21 ?_
    refine J.iconstN g 1 dX4_keep_24 ?_
    refine J.iaddN g dX4_keep_25 ?_
    refine J.bipush (v := nI 8) g dX4_keep_26 (by decide +kernel) ?_
    refine J.icmp_geN g dX4_keep_28 (tgt := 40) (by decide) (by omega) (by omega) (fun c_28 => absurd c_28 (by omega)) (fun c_28 => ?_)
    refine J.aload_n g dX4_keep_31 rfl rfl ?_
    refine J.get g jX4 1 (by decide) lf_X4_17 0 rfl rfl dX4_keep_32 ?_
    refine J.iconstN g 1 dX4_keep_35 ?_
    refine J.iaddN g dX4_keep_36 ?_
    refine J.goto g dX4_keep_37 (tgt := 41) (by decide) ?_
    refine J.put g jX4 1 (by decide) lf_X4_17 0 rfl rfl (Nat.le_of_ble_eq_true rfl) rfl rfl dX4_keep_41 ?_
    try dsimp only [List.set_cons_zero, List.set_cons_succ]
    refine J.aload_n g dX4_keep_44 rfl rfl ?_
    refine J.aload_n g dX4_keep_45 rfl rfl ?_
    refine J.get g jX4 2 (by decide) lf_X4_21 0 rfl rfl dX4_keep_46 ?_
    refine J.iconstN g 1 dX4_keep_49 ?_
    refine J.iaddN g dX4_keep_50 ?_
    refine J.bipush (v := nI 8) g dX4_keep_51 (by decide +kernel) ?_
    refine J.mmin g lm_X4_33 jm_min_s jm_i jm_min_c ⟨Nat.le_of_ble_eq_true rfl, Nat.le_of_ble_eq_true rfl, Nat.le_of_ble_eq_true rfl, Nat.le_of_ble_eq_true rfl⟩ (j_min8 hp) dX4_keep_53 ?_
    refine J.put g jX4 2 (by decide) lf_X4_21 0 rfl rfl (Nat.le_of_ble_eq_true rfl) rfl rfl dX4_keep_56 ?_
    try dsimp only [List.set_cons_zero, List.set_cons_succ]
    exact J.vret g hE u_16 rfl h_16 rfl ⟨Nat.le_of_ble_eq_true rfl, Nat.le_of_ble_eq_true rfl⟩ dX4_keep_59
  · refine J.aload_n g dX4_keep_0 rfl rfl ?_
    refine J.aload_n g dX4_keep_1 rfl rfl ?_
    refine J.get g jX4 1 (by decide) lf_X4_17 0 rfl rfl dX4_keep_2 ?_
    refine J.callV0 g (c_X4_rowAt l γ _ _ _ _ _ _ (by omega)) jy_X4_rowAt lm_X4_25 (q0 := 0) rfl jX4.1 ⟨⟨Nat.le_of_ble_eq_true rfl, Nat.le_of_ble_eq_true rfl⟩, Nat.le_of_ble_eq_true rfl, Nat.le_of_ble_eq_true rfl⟩ (Nat.le_of_ble_eq_true rfl) rfl [0, 1] rfl rfl dX4_keep_5 ?_
    intro _ _
    dsimp only [jpush]
    refine J.astore_n g dX4_keep_8 rfl rfl rfl ?_
    try dsimp only [List.set_cons_zero, List.set_cons_succ]
    refine J.aload_n g dX4_keep_9 rfl rfl ?_
    refine J.ifnonnull g dX4_keep_10 (tgt := 14) (by decide) ?_
    refine J.aload_n g dX4_keep_14 rfl rfl ?_
    refine J.aload_n g dX4_keep_15 rfl rfl ?_
    refine J.callV g (c_X6_copyFrom l γ _ _ _ _ _ _ _ _ (by omega)) jy_X6_copyFrom lm_X4_29 (q0 := 8) rfl jX6.1 ⟨⟨Nat.le_of_ble_eq_true rfl, Nat.le_of_ble_eq_true rfl⟩, Nat.le_of_ble_eq_true rfl, Nat.le_of_ble_eq_true rfl⟩ (Nat.le_of_ble_eq_true rfl) rfl [8, 9, 18, 19] rfl (fun _ => rfl) rfl dX4_keep_16 ?_
    intro u_16 h_16
    dsimp only [jput, List.set_cons_zero, List.set_cons_succ, Option.toList, List.append, List.cons_append, List.nil_append, List.append_nil]
    refine J.aload_n g dX4_keep_19 rfl rfl ?_
    refine J.aload_n g dX4_keep_20 rfl rfl ?_
    refine J.get g jX4 1 (by decide) lf_X4_17 0 rfl rfl dX4_keep_21 ?_
    refine J.iconstN g 1 dX4_keep_24 ?_
    refine J.iaddN g dX4_keep_25 ?_
    refine J.bipush (v := nI 8) g dX4_keep_26 (by decide +kernel) ?_
    refine J.icmp_geN g dX4_keep_28 (tgt := 40) (by decide) (by omega) (by omega) (fun c_28 => absurd c_28 (by omega)) (fun c_28 => ?_)
    refine J.aload_n g dX4_keep_31 rfl rfl ?_
    refine J.get g jX4 1 (by decide) lf_X4_17 0 rfl rfl dX4_keep_32 ?_
    refine J.iconstN g 1 dX4_keep_35 ?_
    refine J.iaddN g dX4_keep_36 ?_
    refine J.goto g dX4_keep_37 (tgt := 41) (by decide) ?_
    refine J.put g jX4 1 (by decide) lf_X4_17 0 rfl rfl (Nat.le_of_ble_eq_true rfl) rfl rfl dX4_keep_41 ?_
    try dsimp only [List.set_cons_zero, List.set_cons_succ]
    refine J.aload_n g dX4_keep_44 rfl rfl ?_
    refine J.aload_n g dX4_keep_45 rfl rfl ?_
    refine J.get g jX4 2 (by decide) lf_X4_21 0 rfl rfl dX4_keep_46 ?_
    refine J.iconstN g 1 dX4_keep_49 ?_
    refine J.iaddN g dX4_keep_50 ?_
    refine J.bipush (v := nI 8) g dX4_keep_51 (by decide +kernel) ?_
    refine J.mmin g lm_X4_33 jm_min_s jm_i jm_min_c ⟨Nat.le_of_ble_eq_true rfl, Nat.le_of_ble_eq_true rfl, Nat.le_of_ble_eq_true rfl, Nat.le_of_ble_eq_true rfl⟩ (j_min8 hp) dX4_keep_53 ?_
    refine J.put g jX4 2 (by decide) lf_X4_21 0 rfl rfl (Nat.le_of_ble_eq_true rfl) rfl rfl dX4_keep_56 ?_
    try dsimp only [List.set_cons_zero, List.set_cons_succ]
    exact J.vret g hE u_16 rfl h_16 rfl ⟨Nat.le_of_ble_eq_true rfl, Nat.le_of_ble_eq_true rfl⟩ dX4_keep_59
  · refine J.aload_n g dX4_keep_0 rfl rfl ?_
    refine J.aload_n g dX4_keep_1 rfl rfl ?_
    refine J.get g jX4 1 (by decide) lf_X4_17 0 rfl rfl dX4_keep_2 ?_
    refine J.callV0 g (c_X4_rowAt l γ _ _ _ _ _ _ (by omega)) jy_X4_rowAt lm_X4_25 (q0 := 0) rfl jX4.1 ⟨⟨Nat.le_of_ble_eq_true rfl, Nat.le_of_ble_eq_true rfl⟩, Nat.le_of_ble_eq_true rfl, Nat.le_of_ble_eq_true rfl⟩ (Nat.le_of_ble_eq_true rfl) rfl [0, 1] rfl rfl dX4_keep_5 ?_
    intro _ _
    dsimp only [jpush]
    refine J.astore_n g dX4_keep_8 rfl rfl rfl ?_
    try dsimp only [List.set_cons_zero, List.set_cons_succ]
    refine J.aload_n g dX4_keep_9 rfl rfl ?_
    refine J.ifnonnull g dX4_keep_10 (tgt := 14) (by decide) ?_
    refine J.aload_n g dX4_keep_14 rfl rfl ?_
    refine J.aload_n g dX4_keep_15 rfl rfl ?_
    refine J.callV g (c_X6_copyFrom l γ _ _ _ _ _ _ _ _ (by omega)) jy_X6_copyFrom lm_X4_29 (q0 := 10) rfl jX6.1 ⟨⟨Nat.le_of_ble_eq_true rfl, Nat.le_of_ble_eq_true rfl⟩, Nat.le_of_ble_eq_true rfl, Nat.le_of_ble_eq_true rfl⟩ (Nat.le_of_ble_eq_true rfl) rfl [10, 11, 18, 19] rfl (fun _ => rfl) rfl dX4_keep_16 ?_
    intro u_16 h_16
    dsimp only [jput, List.set_cons_zero, List.set_cons_succ, Option.toList, List.append, List.cons_append, List.nil_append, List.append_nil]
    refine J.aload_n g dX4_keep_19 rfl rfl ?_
    refine J.aload_n g dX4_keep_20 rfl rfl ?_
    refine J.get g jX4 1 (by decide) lf_X4_17 0 rfl rfl dX4_keep_21 ?_
    refine J.iconstN g 1 dX4_keep_24 ?_
    refine J.iaddN g dX4_keep_25 ?_
    refine J.bipush (v := nI 8) g dX4_keep_26 (by decide +kernel) ?_
    refine J.icmp_geN g dX4_keep_28 (tgt := 40) (by decide) (by omega) (by omega) (fun c_28 => absurd c_28 (by omega)) (fun c_28 => ?_)
    refine J.aload_n g dX4_keep_31 rfl rfl ?_
    refine J.get g jX4 1 (by decide) lf_X4_17 0 rfl rfl dX4_keep_32 ?_
    refine J.iconstN g 1 dX4_keep_35 ?_
    refine J.iaddN g dX4_keep_36 ?_
    refine J.goto g dX4_keep_37 (tgt := 41) (by decide) ?_
    refine J.put g jX4 1 (by decide) lf_X4_17 0 rfl rfl (Nat.le_of_ble_eq_true rfl) rfl rfl dX4_keep_41 ?_
    try dsimp only [List.set_cons_zero, List.set_cons_succ]
    refine J.aload_n g dX4_keep_44 rfl rfl ?_
    refine J.aload_n g dX4_keep_45 rfl rfl ?_
    refine J.get g jX4 2 (by decide) lf_X4_21 0 rfl rfl dX4_keep_46 ?_
    refine J.iconstN g 1 dX4_keep_49 ?_
    refine J.iaddN g dX4_keep_50 ?_
    refine J.bipush (v := nI 8) g dX4_keep_51 (by decide +kernel) ?_
    refine J.mmin g lm_X4_33 jm_min_s jm_i jm_min_c ⟨Nat.le_of_ble_eq_true rfl, Nat.le_of_ble_eq_true rfl, Nat.le_of_ble_eq_true rfl, Nat.le_of_ble_eq_true rfl⟩ (j_min8 hp) dX4_keep_53 ?_
    refine J.put g jX4 2 (by decide) lf_X4_21 0 rfl rfl (Nat.le_of_ble_eq_true rfl) rfl rfl dX4_keep_56 ?_
    try dsimp only [List.set_cons_zero, List.set_cons_succ]
    exact J.vret g hE u_16 rfl h_16 rfl ⟨Nat.le_of_ble_eq_true rfl, Nat.le_of_ble_eq_true rfl⟩ dX4_keep_59
  · refine J.aload_n g dX4_keep_0 rfl rfl ?_
    refine J.aload_n g dX4_keep_1 rfl rfl ?_
    refine J.get g jX4 1 (by decide) lf_X4_17 0 rfl rfl dX4_keep_2 ?_
    refine J.callV0 g (c_X4_rowAt l γ _ _ _ _ _ _ (by omega)) jy_X4_rowAt lm_X4_25 (q0 := 0) rfl jX4.1 ⟨⟨Nat.le_of_ble_eq_true rfl, Nat.le_of_ble_eq_true rfl⟩, Nat.le_of_ble_eq_true rfl, Nat.le_of_ble_eq_true rfl⟩ (Nat.le_of_ble_eq_true rfl) rfl [0, 1] rfl rfl dX4_keep_5 ?_
    intro _ _
    dsimp only [jpush]
    refine J.astore_n g dX4_keep_8 rfl rfl rfl ?_
    try dsimp only [List.set_cons_zero, List.set_cons_succ]
    refine J.aload_n g dX4_keep_9 rfl rfl ?_
    refine J.ifnonnull g dX4_keep_10 (tgt := 14) (by decide) ?_
    refine J.aload_n g dX4_keep_14 rfl rfl ?_
    refine J.aload_n g dX4_keep_15 rfl rfl ?_
    refine J.callV g (c_X6_copyFrom l γ _ _ _ _ _ _ _ _ (by omega)) jy_X6_copyFrom lm_X4_29 (q0 := 12) rfl jX6.1 ⟨⟨Nat.le_of_ble_eq_true rfl, Nat.le_of_ble_eq_true rfl⟩, Nat.le_of_ble_eq_true rfl, Nat.le_of_ble_eq_true rfl⟩ (Nat.le_of_ble_eq_true rfl) rfl [12, 13, 18, 19] rfl (fun _ => rfl) rfl dX4_keep_16 ?_
    intro u_16 h_16
    dsimp only [jput, List.set_cons_zero, List.set_cons_succ, Option.toList, List.append, List.cons_append, List.nil_append, List.append_nil]
    refine J.aload_n g dX4_keep_19 rfl rfl ?_
    refine J.aload_n g dX4_keep_20 rfl rfl ?_
    refine J.get g jX4 1 (by decide) lf_X4_17 0 rfl rfl dX4_keep_21 ?_
    refine J.iconstN g 1 dX4_keep_24 ?_
    refine J.iaddN g dX4_keep_25 ?_
    refine J.bipush (v := nI 8) g dX4_keep_26 (by decide +kernel) ?_
    refine J.icmp_geN g dX4_keep_28 (tgt := 40) (by decide) (by omega) (by omega) (fun c_28 => absurd c_28 (by omega)) (fun c_28 => ?_)
    refine J.aload_n g dX4_keep_31 rfl rfl ?_
    refine J.get g jX4 1 (by decide) lf_X4_17 0 rfl rfl dX4_keep_32 ?_
    refine J.iconstN g 1 dX4_keep_35 ?_
    refine J.iaddN g dX4_keep_36 ?_
    refine J.goto g dX4_keep_37 (tgt := 41) (by decide) ?_
    refine J.put g jX4 1 (by decide) lf_X4_17 0 rfl rfl (Nat.le_of_ble_eq_true rfl) rfl rfl dX4_keep_41 ?_
    try dsimp only [List.set_cons_zero, List.set_cons_succ]
    refine J.aload_n g dX4_keep_44 rfl rfl ?_
    refine J.aload_n g dX4_keep_45 rfl rfl ?_
    refine J.get g jX4 2 (by decide) lf_X4_21 0 rfl rfl dX4_keep_46 ?_
    refine J.iconstN g 1 dX4_keep_49 ?_
    refine J.iaddN g dX4_keep_50 ?_
    refine J.bipush (v := nI 8) g dX4_keep_51 (by decide +kernel) ?_
    refine J.mmin g lm_X4_33 jm_min_s jm_i jm_min_c ⟨Nat.le_of_ble_eq_true rfl, Nat.le_of_ble_eq_true rfl, Nat.le_of_ble_eq_true rfl, Nat.le_of_ble_eq_true rfl⟩ (j_min8 hp) dX4_keep_53 ?_
    refine J.put g jX4 2 (by decide) lf_X4_21 0 rfl rfl (Nat.le_of_ble_eq_true rfl) rfl rfl dX4_keep_56 ?_
    try dsimp only [List.set_cons_zero, List.set_cons_succ]
    exact J.vret g hE u_16 rfl h_16 rfl ⟨Nat.le_of_ble_eq_true rfl, Nat.le_of_ble_eq_true rfl⟩ dX4_keep_59
  · refine J.aload_n g dX4_keep_0 rfl rfl ?_
    refine J.aload_n g dX4_keep_1 rfl rfl ?_
    refine J.get g jX4 1 (by decide) lf_X4_17 0 rfl rfl dX4_keep_2 ?_
    refine J.callV0 g (c_X4_rowAt l γ _ _ _ _ _ _ (by omega)) jy_X4_rowAt lm_X4_25 (q0 := 0) rfl jX4.1 ⟨⟨Nat.le_of_ble_eq_true rfl, Nat.le_of_ble_eq_true rfl⟩, Nat.le_of_ble_eq_true rfl, Nat.le_of_ble_eq_true rfl⟩ (Nat.le_of_ble_eq_true rfl) rfl [0, 1] rfl rfl dX4_keep_5 ?_
    intro _ _
    dsimp only [jpush]
    refine J.astore_n g dX4_keep_8 rfl rfl rfl ?_
    try dsimp only [List.set_cons_zero, List.set_cons_succ]
    refine J.aload_n g dX4_keep_9 rfl rfl ?_
    refine J.ifnonnull g dX4_keep_10 (tgt := 14) (by decide) ?_
    refine J.aload_n g dX4_keep_14 rfl rfl ?_
    refine J.aload_n g dX4_keep_15 rfl rfl ?_
    refine J.callV g (c_X6_copyFrom l γ _ _ _ _ _ _ _ _ (by omega)) jy_X6_copyFrom lm_X4_29 (q0 := 14) rfl jX6.1 ⟨⟨Nat.le_of_ble_eq_true rfl, Nat.le_of_ble_eq_true rfl⟩, Nat.le_of_ble_eq_true rfl, Nat.le_of_ble_eq_true rfl⟩ (Nat.le_of_ble_eq_true rfl) rfl [14, 15, 18, 19] rfl (fun _ => rfl) rfl dX4_keep_16 ?_
    intro u_16 h_16
    dsimp only [jput, List.set_cons_zero, List.set_cons_succ, Option.toList, List.append, List.cons_append, List.nil_append, List.append_nil]
    refine J.aload_n g dX4_keep_19 rfl rfl ?_
    refine J.aload_n g dX4_keep_20 rfl rfl ?_
    refine J.get g jX4 1 (by decide) lf_X4_17 0 rfl rfl dX4_keep_21 ?_
    refine J.iconstN g 1 dX4_keep_24 ?_
    refine J.iaddN g dX4_keep_25 ?_
    refine J.bipush (v := nI 8) g dX4_keep_26 (by decide +kernel) ?_
    refine J.icmp_geN g dX4_keep_28 (tgt := 40) (by decide) (by omega) (by omega) (fun c_28 => absurd c_28 (by omega)) (fun c_28 => ?_)
    refine J.aload_n g dX4_keep_31 rfl rfl ?_
    refine J.get g jX4 1 (by decide) lf_X4_17 0 rfl rfl dX4_keep_32 ?_
    refine J.iconstN g 1 dX4_keep_35 ?_
    refine J.iaddN g dX4_keep_36 ?_
    refine J.goto g dX4_keep_37 (tgt := 41) (by decide) ?_
    refine J.put g jX4 1 (by decide) lf_X4_17 0 rfl rfl (Nat.le_of_ble_eq_true rfl) rfl rfl dX4_keep_41 ?_
    try dsimp only [List.set_cons_zero, List.set_cons_succ]
    refine J.aload_n g dX4_keep_44 rfl rfl ?_
    refine J.aload_n g dX4_keep_45 rfl rfl ?_
    refine J.get g jX4 2 (by decide) lf_X4_21 0 rfl rfl dX4_keep_46 ?_
    refine J.iconstN g 1 dX4_keep_49 ?_
    refine J.iaddN g dX4_keep_50 ?_
    refine J.bipush (v := nI 8) g dX4_keep_51 (by decide +kernel) ?_
    refine J.mmin g lm_X4_33 jm_min_s jm_i jm_min_c ⟨Nat.le_of_ble_eq_true rfl, Nat.le_of_ble_eq_true rfl, Nat.le_of_ble_eq_true rfl, Nat.le_of_ble_eq_true rfl⟩ (j_min8 hp) dX4_keep_53 ?_
    refine J.put g jX4 2 (by decide) lf_X4_21 0 rfl rfl (Nat.le_of_ble_eq_true rfl) rfl rfl dX4_keep_56 ?_
    try dsimp only [List.set_cons_zero, List.set_cons_succ]
    exact J.vret g hE u_16 rfl h_16 rfl ⟨Nat.le_of_ble_eq_true rfl, Nat.le_of_ble_eq_true rfl⟩ dX4_keep_59
  · refine J.aload_n g dX4_keep_0 rfl rfl ?_
    refine J.aload_n g dX4_keep_1 rfl rfl ?_
    refine J.get g jX4 1 (by decide) lf_X4_17 0 rfl rfl dX4_keep_2 ?_
    refine J.callV0 g (c_X4_rowAt l γ _ _ _ _ _ _ (by omega)) jy_X4_rowAt lm_X4_25 (q0 := 0) rfl jX4.1 ⟨⟨Nat.le_of_ble_eq_true rfl, Nat.le_of_ble_eq_true rfl⟩, Nat.le_of_ble_eq_true rfl, Nat.le_of_ble_eq_true rfl⟩ (Nat.le_of_ble_eq_true rfl) rfl [0, 1] rfl rfl dX4_keep_5 ?_
    intro _ _
    dsimp only [jpush]
    refine J.astore_n g dX4_keep_8 rfl rfl rfl ?_
    try dsimp only [List.set_cons_zero, List.set_cons_succ]
    refine J.aload_n g dX4_keep_9 rfl rfl ?_
    refine J.ifnonnull g dX4_keep_10 (tgt := 14) (by decide) ?_
    refine J.aload_n g dX4_keep_14 rfl rfl ?_
    refine J.aload_n g dX4_keep_15 rfl rfl ?_
    refine J.callV g (c_X6_copyFrom l γ _ _ _ _ _ _ _ _ (by omega)) jy_X6_copyFrom lm_X4_29 (q0 := 16) rfl jX6.1 ⟨⟨Nat.le_of_ble_eq_true rfl, Nat.le_of_ble_eq_true rfl⟩, Nat.le_of_ble_eq_true rfl, Nat.le_of_ble_eq_true rfl⟩ (Nat.le_of_ble_eq_true rfl) rfl [16, 17, 18, 19] rfl (fun _ => rfl) rfl dX4_keep_16 ?_
    intro u_16 h_16
    dsimp only [jput, List.set_cons_zero, List.set_cons_succ, Option.toList, List.append, List.cons_append, List.nil_append, List.append_nil]
    refine J.aload_n g dX4_keep_19 rfl rfl ?_
    refine J.aload_n g dX4_keep_20 rfl rfl ?_
    refine J.get g jX4 1 (by decide) lf_X4_17 0 rfl rfl dX4_keep_21 ?_
    refine J.iconstN g 1 dX4_keep_24 ?_
    refine J.iaddN g dX4_keep_25 ?_
    refine J.bipush (v := nI 8) g dX4_keep_26 (by decide +kernel) ?_
    refine J.icmp_geN g dX4_keep_28 (tgt := 40) (by decide) (by omega) (by omega) (fun c_28 => ?_) (fun c_28 => absurd c_28 (by omega))
    refine J.iconstN g 0 dX4_keep_40 ?_
    refine J.put g jX4 1 (by decide) lf_X4_17 0 rfl rfl (Nat.le_of_ble_eq_true rfl) rfl rfl dX4_keep_41 ?_
    try dsimp only [List.set_cons_zero, List.set_cons_succ]
    refine J.aload_n g dX4_keep_44 rfl rfl ?_
    refine J.aload_n g dX4_keep_45 rfl rfl ?_
    refine J.get g jX4 2 (by decide) lf_X4_21 0 rfl rfl dX4_keep_46 ?_
    refine J.iconstN g 1 dX4_keep_49 ?_
    refine J.iaddN g dX4_keep_50 ?_
    refine J.bipush (v := nI 8) g dX4_keep_51 (by decide +kernel) ?_
    refine J.mmin g lm_X4_33 jm_min_s jm_i jm_min_c ⟨Nat.le_of_ble_eq_true rfl, Nat.le_of_ble_eq_true rfl, Nat.le_of_ble_eq_true rfl, Nat.le_of_ble_eq_true rfl⟩ (j_min8 hp) dX4_keep_53 ?_
    refine J.put g jX4 2 (by decide) lf_X4_21 0 rfl rfl (Nat.le_of_ble_eq_true rfl) rfl rfl dX4_keep_56 ?_
    try dsimp only [List.set_cons_zero, List.set_cons_succ]
    exact J.vret g hE u_16 rfl h_16 rfl ⟨Nat.le_of_ble_eq_true rfl, Nat.le_of_ble_eq_true rfl⟩ dX4_keep_59
set_option maxHeartbeats 4000000 in
set_option maxRecDepth 100000 in
theorem c_X4_takeBack (l : Launch) (γ : jγ) (pa rq nx pl : Nat) (ra re ln : Nat → Nat) (rf : Nat → Nat → Nat) (a e n : Nat) (f : Nat → Nat) (hx : nx < 8) (hp : 0 < pl) (hp2 : pl ≤ 8) (hl : ∀ i, i < 8 → ln i ≤ 12) : jM (S := Nat → Nat) l γ yX4_takeBack cX4_takeBack 4 none ({ frames := 1, cells := 0, slots := 0, locals := 22 } : Room) [.ref pa, .ref a] [(pa, .inr (4, [.ref rq, .int (nI nx), .int (nI pl)])), (rq, .inl (γ.2 5, 8, .inr (.inr (.inr (.inr (fun i => some (ra i))))))), ((ra 0), .inr (6, [.ref (re 0), .int (nI (ln 0))])), ((re 0), .inl (γ.2 0, 12, .inl (fun j => nI ((rf 0) j)))), ((ra 1), .inr (6, [.ref (re 1), .int (nI (ln 1))])), ((re 1), .inl (γ.2 0, 12, .inl (fun j => nI ((rf 1) j)))), ((ra 2), .inr (6, [.ref (re 2), .int (nI (ln 2))])), ((re 2), .inl (γ.2 0, 12, .inl (fun j => nI ((rf 2) j)))), ((ra 3), .inr (6, [.ref (re 3), .int (nI (ln 3))])), ((re 3), .inl (γ.2 0, 12, .inl (fun j => nI ((rf 3) j)))), ((ra 4), .inr (6, [.ref (re 4), .int (nI (ln 4))])), ((re 4), .inl (γ.2 0, 12, .inl (fun j => nI ((rf 4) j)))), ((ra 5), .inr (6, [.ref (re 5), .int (nI (ln 5))])), ((re 5), .inl (γ.2 0, 12, .inl (fun j => nI ((rf 5) j)))), ((ra 6), .inr (6, [.ref (re 6), .int (nI (ln 6))])), ((re 6), .inl (γ.2 0, 12, .inl (fun j => nI ((rf 6) j)))), ((ra 7), .inr (6, [.ref (re 7), .int (nI (ln 7))])), ((re 7), .inl (γ.2 0, 12, .inl (fun j => nI ((rf 7) j)))), (a, .inr (6, [.ref e, .int (nI n)])), (e, .inl (γ.2 0, 12, .inl (fun j => nI (f j))))] (fun u => none) (fun u => [(pa, .inr (4, [.ref rq, .int (nI (if 0 < nx then nx - 1 else 7)), .int (nI (pl - 1))])), (rq, .inl (γ.2 5, 8, .inr (.inr (.inr (.inr (fun i => some (ra i))))))), ((ra 0), .inr (6, [.ref (re 0), .int (nI (ln 0))])), ((re 0), .inl (γ.2 0, 12, .inl (fun j => nI ((rf 0) j)))), ((ra 1), .inr (6, [.ref (re 1), .int (nI (ln 1))])), ((re 1), .inl (γ.2 0, 12, .inl (fun j => nI ((rf 1) j)))), ((ra 2), .inr (6, [.ref (re 2), .int (nI (ln 2))])), ((re 2), .inl (γ.2 0, 12, .inl (fun j => nI ((rf 2) j)))), ((ra 3), .inr (6, [.ref (re 3), .int (nI (ln 3))])), ((re 3), .inl (γ.2 0, 12, .inl (fun j => nI ((rf 3) j)))), ((ra 4), .inr (6, [.ref (re 4), .int (nI (ln 4))])), ((re 4), .inl (γ.2 0, 12, .inl (fun j => nI ((rf 4) j)))), ((ra 5), .inr (6, [.ref (re 5), .int (nI (ln 5))])), ((re 5), .inl (γ.2 0, 12, .inl (fun j => nI ((rf 5) j)))), ((ra 6), .inr (6, [.ref (re 6), .int (nI (ln 6))])), ((re 6), .inl (γ.2 0, 12, .inl (fun j => nI ((rf 6) j)))), ((ra 7), .inr (6, [.ref (re 7), .int (nI (ln 7))])), ((re 7), .inl (γ.2 0, 12, .inl (fun j => nI ((rf 7) j)))), (a, .inr (6, [.ref e, .int (nI (ln (if 0 < nx then nx - 1 else 7)))])), (e, .inl (γ.2 0, 12, .inl (fun j => nI (u j))))]) (fun u => ∀ k, k < ln (if 0 < nx then nx - 1 else 7) → u k = rf (if 0 < nx then nx - 1 else 7) k) := by
  refine jM.of [some (.ref pa), some (.ref a), none, none] rfl (Nat.le_of_ble_eq_true rfl) (by decide) ?_
  intro x g hE hin
  rcases (show nx = 0 ∨ nx = 1 ∨ nx = 2 ∨ nx = 3 ∨ nx = 4 ∨ nx = 5 ∨ nx = 6 ∨ nx = 7 by omega) with rfl | rfl | rfl | rfl | rfl | rfl | rfl | rfl
  · refine J.aload_n g dX4_takeBack_0 rfl rfl ?_
    refine J.get g jX4 1 (by decide) lf_X4_17 0 rfl rfl dX4_takeBack_1 ?_
    refine J.if_leN g dX4_takeBack_4 (tgt := 16) (by decide) (by omega) (fun c_4 => ?_) (fun c_4 => absurd c_4 (by omega))
    refine J.bipush (v := nI 7) g dX4_takeBack_16 (by decide +kernel) ?_
    refine J.istore_n g dX4_takeBack_18 rfl rfl rfl ?_
    try dsimp only [List.set_cons_zero, List.set_cons_succ]
    refine J.aload_n g dX4_takeBack_19 rfl rfl ?_
    refine J.iload_n g dX4_takeBack_20 rfl rfl ?_
    refine J.callV0 g (c_X4_rowAt l γ _ _ _ _ _ _ (by omega)) jy_X4_rowAt lm_X4_25 (q0 := 0) rfl jX4.1 ⟨⟨Nat.le_of_ble_eq_true rfl, Nat.le_of_ble_eq_true rfl⟩, Nat.le_of_ble_eq_true rfl, Nat.le_of_ble_eq_true rfl⟩ (Nat.le_of_ble_eq_true rfl) rfl [0, 1] rfl rfl dX4_takeBack_21 ?_
    intro _ _
    dsimp only [jpush]
    refine J.astore_n g dX4_takeBack_24 rfl rfl rfl ?_
    try dsimp only [List.set_cons_zero, List.set_cons_succ]
    refine J.aload_n g dX4_takeBack_25 rfl rfl ?_
    refine J.get g jX4 2 (by decide) lf_X4_21 0 rfl rfl dX4_takeBack_26 ?_
    refine J.iconstN g 1 dX4_takeBack_29 ?_
    refine J.icmp_ltN g dX4_takeBack_30 (tgt := 37) (by decide) (by omega) (by omega) (fun c_30 => absurd c_30 (by omega)) (fun c_30 => ?_)
    refine J.aload_n g dX4_takeBack_33 rfl rfl ?_
    refine J.ifnonnull g dX4_takeBack_34 (tgt := 38) (by decide) ?_
    refine J.aload_n g dX4_takeBack_38 rfl rfl ?_
    refine J.aload_n g dX4_takeBack_39 rfl rfl ?_
    refine J.callV g (c_X6_copyFrom l γ _ _ _ _ _ _ _ _ (hl 7 (by decide))) jy_X6_copyFrom lm_X4_29 (q0 := 18) rfl jX6.1 ⟨⟨Nat.le_of_ble_eq_true rfl, Nat.le_of_ble_eq_true rfl⟩, Nat.le_of_ble_eq_true rfl, Nat.le_of_ble_eq_true rfl⟩ (Nat.le_of_ble_eq_true rfl) rfl [18, 19, 16, 17] rfl (fun _ => rfl) rfl dX4_takeBack_40 ?_
    intro u_40 h_40
    dsimp only [jput, List.set_cons_zero, List.set_cons_succ, Option.toList, List.append, List.cons_append, List.nil_append, List.append_nil]
    refine J.aload_n g dX4_takeBack_43 rfl rfl ?_
    refine J.iload_n g dX4_takeBack_44 rfl rfl ?_
    refine J.put g jX4 1 (by decide) lf_X4_17 0 rfl rfl (Nat.le_of_ble_eq_true rfl) rfl rfl dX4_takeBack_45 ?_
    try dsimp only [List.set_cons_zero, List.set_cons_succ]
    refine J.aload_n g dX4_takeBack_48 rfl rfl ?_
    refine J.dup g dX4_takeBack_49 rfl ?_
    refine J.get g jX4 2 (by decide) lf_X4_21 0 rfl rfl dX4_takeBack_50 ?_
    refine J.iconstN g 1 dX4_takeBack_53 ?_
    refine J.isubN g dX4_takeBack_54 (by omega) ?_
    refine J.put g jX4 2 (by decide) lf_X4_21 0 rfl rfl (Nat.le_of_ble_eq_true rfl) rfl rfl dX4_takeBack_55 ?_
    try dsimp only [List.set_cons_zero, List.set_cons_succ]
    exact J.vret g hE u_40 rfl h_40 rfl ⟨Nat.le_of_ble_eq_true rfl, Nat.le_of_ble_eq_true rfl⟩ dX4_takeBack_58
  · refine J.aload_n g dX4_takeBack_0 rfl rfl ?_
    refine J.get g jX4 1 (by decide) lf_X4_17 0 rfl rfl dX4_takeBack_1 ?_
    refine J.if_leN g dX4_takeBack_4 (tgt := 16) (by decide) (by omega) (fun c_4 => absurd c_4 (by omega)) (fun c_4 => ?_)
    refine J.aload_n g dX4_takeBack_7 rfl rfl ?_
    refine J.get g jX4 1 (by decide) lf_X4_17 0 rfl rfl dX4_takeBack_8 ?_
    refine J.iconstN g 1 dX4_takeBack_11 ?_
    refine J.isubN g dX4_takeBack_12 (by omega) ?_
    refine J.goto g dX4_takeBack_13 (tgt := 18) (by decide) ?_
    refine J.istore_n g dX4_takeBack_18 rfl rfl rfl ?_
    try dsimp only [List.set_cons_zero, List.set_cons_succ]
    refine J.aload_n g dX4_takeBack_19 rfl rfl ?_
    refine J.iload_n g dX4_takeBack_20 rfl rfl ?_
    refine J.callV0 g (c_X4_rowAt l γ _ _ _ _ _ _ (by omega)) jy_X4_rowAt lm_X4_25 (q0 := 0) rfl jX4.1 ⟨⟨Nat.le_of_ble_eq_true rfl, Nat.le_of_ble_eq_true rfl⟩, Nat.le_of_ble_eq_true rfl, Nat.le_of_ble_eq_true rfl⟩ (Nat.le_of_ble_eq_true rfl) rfl [0, 1] rfl rfl dX4_takeBack_21 ?_
    intro _ _
    dsimp only [jpush]
    refine J.astore_n g dX4_takeBack_24 rfl rfl rfl ?_
    try dsimp only [List.set_cons_zero, List.set_cons_succ]
    refine J.aload_n g dX4_takeBack_25 rfl rfl ?_
    refine J.get g jX4 2 (by decide) lf_X4_21 0 rfl rfl dX4_takeBack_26 ?_
    refine J.iconstN g 1 dX4_takeBack_29 ?_
    refine J.icmp_ltN g dX4_takeBack_30 (tgt := 37) (by decide) (by omega) (by omega) (fun c_30 => absurd c_30 (by omega)) (fun c_30 => ?_)
    refine J.aload_n g dX4_takeBack_33 rfl rfl ?_
    refine J.ifnonnull g dX4_takeBack_34 (tgt := 38) (by decide) ?_
    refine J.aload_n g dX4_takeBack_38 rfl rfl ?_
    refine J.aload_n g dX4_takeBack_39 rfl rfl ?_
    refine J.callV g (c_X6_copyFrom l γ _ _ _ _ _ _ _ _ (hl 0 (by decide))) jy_X6_copyFrom lm_X4_29 (q0 := 18) rfl jX6.1 ⟨⟨Nat.le_of_ble_eq_true rfl, Nat.le_of_ble_eq_true rfl⟩, Nat.le_of_ble_eq_true rfl, Nat.le_of_ble_eq_true rfl⟩ (Nat.le_of_ble_eq_true rfl) rfl [18, 19, 2, 3] rfl (fun _ => rfl) rfl dX4_takeBack_40 ?_
    intro u_40 h_40
    dsimp only [jput, List.set_cons_zero, List.set_cons_succ, Option.toList, List.append, List.cons_append, List.nil_append, List.append_nil]
    refine J.aload_n g dX4_takeBack_43 rfl rfl ?_
    refine J.iload_n g dX4_takeBack_44 rfl rfl ?_
    refine J.put g jX4 1 (by decide) lf_X4_17 0 rfl rfl (Nat.le_of_ble_eq_true rfl) rfl rfl dX4_takeBack_45 ?_
    try dsimp only [List.set_cons_zero, List.set_cons_succ]
    refine J.aload_n g dX4_takeBack_48 rfl rfl ?_
    refine J.dup g dX4_takeBack_49 rfl ?_
    refine J.get g jX4 2 (by decide) lf_X4_21 0 rfl rfl dX4_takeBack_50 ?_
    refine J.iconstN g 1 dX4_takeBack_53 ?_
    refine J.isubN g dX4_takeBack_54 (by omega) ?_
    refine J.put g jX4 2 (by decide) lf_X4_21 0 rfl rfl (Nat.le_of_ble_eq_true rfl) rfl rfl dX4_takeBack_55 ?_
    try dsimp only [List.set_cons_zero, List.set_cons_succ]
    exact J.vret g hE u_40 rfl h_40 rfl ⟨Nat.le_of_ble_eq_true rfl, Nat.le_of_ble_eq_true rfl⟩ dX4_takeBack_58
  · refine J.aload_n g dX4_takeBack_0 rfl rfl ?_
    refine J.get g jX4 1 (by decide) lf_X4_17 0 rfl rfl dX4_takeBack_1 ?_
    refine J.if_leN g dX4_takeBack_4 (tgt := 16) (by decide) (by omega) (fun c_4 => absurd c_4 (by omega)) (fun c_4 => ?_)
    refine J.aload_n g dX4_takeBack_7 rfl rfl ?_
    refine J.get g jX4 1 (by decide) lf_X4_17 0 rfl rfl dX4_takeBack_8 ?_
    refine J.iconstN g 1 dX4_takeBack_11 ?_
    refine J.isubN g dX4_takeBack_12 (by omega) ?_
    refine J.goto g dX4_takeBack_13 (tgt := 18) (by decide) ?_
    refine J.istore_n g dX4_takeBack_18 rfl rfl rfl ?_
    try dsimp only [List.set_cons_zero, List.set_cons_succ]
    refine J.aload_n g dX4_takeBack_19 rfl rfl ?_
    refine J.iload_n g dX4_takeBack_20 rfl rfl ?_
    refine J.callV0 g (c_X4_rowAt l γ _ _ _ _ _ _ (by omega)) jy_X4_rowAt lm_X4_25 (q0 := 0) rfl jX4.1 ⟨⟨Nat.le_of_ble_eq_true rfl, Nat.le_of_ble_eq_true rfl⟩, Nat.le_of_ble_eq_true rfl, Nat.le_of_ble_eq_true rfl⟩ (Nat.le_of_ble_eq_true rfl) rfl [0, 1] rfl rfl dX4_takeBack_21 ?_
    intro _ _
    dsimp only [jpush]
    refine J.astore_n g dX4_takeBack_24 rfl rfl rfl ?_
    try dsimp only [List.set_cons_zero, List.set_cons_succ]
    refine J.aload_n g dX4_takeBack_25 rfl rfl ?_
    refine J.get g jX4 2 (by decide) lf_X4_21 0 rfl rfl dX4_takeBack_26 ?_
    refine J.iconstN g 1 dX4_takeBack_29 ?_
    refine J.icmp_ltN g dX4_takeBack_30 (tgt := 37) (by decide) (by omega) (by omega) (fun c_30 => absurd c_30 (by omega)) (fun c_30 => ?_)
    refine J.aload_n g dX4_takeBack_33 rfl rfl ?_
    refine J.ifnonnull g dX4_takeBack_34 (tgt := 38) (by decide) ?_
    refine J.aload_n g dX4_takeBack_38 rfl rfl ?_
    refine J.aload_n g dX4_takeBack_39 rfl rfl ?_
    refine J.callV g (c_X6_copyFrom l γ _ _ _ _ _ _ _ _ (hl 1 (by decide))) jy_X6_copyFrom lm_X4_29 (q0 := 18) rfl jX6.1 ⟨⟨Nat.le_of_ble_eq_true rfl, Nat.le_of_ble_eq_true rfl⟩, Nat.le_of_ble_eq_true rfl, Nat.le_of_ble_eq_true rfl⟩ (Nat.le_of_ble_eq_true rfl) rfl [18, 19, 4, 5] rfl (fun _ => rfl) rfl dX4_takeBack_40 ?_
    intro u_40 h_40
    dsimp only [jput, List.set_cons_zero, List.set_cons_succ, Option.toList, List.append, List.cons_append, List.nil_append, List.append_nil]
    refine J.aload_n g dX4_takeBack_43 rfl rfl ?_
    refine J.iload_n g dX4_takeBack_44 rfl rfl ?_
    refine J.put g jX4 1 (by decide) lf_X4_17 0 rfl rfl (Nat.le_of_ble_eq_true rfl) rfl rfl dX4_takeBack_45 ?_
    try dsimp only [List.set_cons_zero, List.set_cons_succ]
    refine J.aload_n g dX4_takeBack_48 rfl rfl ?_
    refine J.dup g dX4_takeBack_49 rfl ?_
    refine J.get g jX4 2 (by decide) lf_X4_21 0 rfl rfl dX4_takeBack_50 ?_
    refine J.iconstN g 1 dX4_takeBack_53 ?_
    refine J.isubN g dX4_takeBack_54 (by omega) ?_
    refine J.put g jX4 2 (by decide) lf_X4_21 0 rfl rfl (Nat.le_of_ble_eq_true rfl) rfl rfl dX4_takeBack_55 ?_
    try dsimp only [List.set_cons_zero, List.set_cons_succ]
    exact J.vret g hE u_40 rfl h_40 rfl ⟨Nat.le_of_ble_eq_true rfl, Nat.le_of_ble_eq_true rfl⟩ dX4_takeBack_58
  · refine J.aload_n g dX4_takeBack_0 rfl rfl ?_
    refine J.get g jX4 1 (by decide) lf_X4_17 0 rfl rfl dX4_takeBack_1 ?_
    refine J.if_leN g dX4_takeBack_4 (tgt := 16) (by decide) (by omega) (fun c_4 => absurd c_4 (by omega)) (fun c_4 => ?_)
    refine J.aload_n g dX4_takeBack_7 rfl rfl ?_
    refine J.get g jX4 1 (by decide) lf_X4_17 0 rfl rfl dX4_takeBack_8 ?_
    refine J.iconstN g 1 dX4_takeBack_11 ?_
    refine J.isubN g dX4_takeBack_12 (by omega) ?_
    refine J.goto g dX4_takeBack_13 (tgt := 18) (by decide) ?_
    refine J.istore_n g dX4_takeBack_18 rfl rfl rfl ?_
    try dsimp only [List.set_cons_zero, List.set_cons_succ]
    refine J.aload_n g dX4_takeBack_19 rfl rfl ?_
    refine J.iload_n g dX4_takeBack_20 rfl rfl ?_
    refine J.callV0 g (c_X4_rowAt l γ _ _ _ _ _ _ (by omega)) jy_X4_rowAt lm_X4_25 (q0 := 0) rfl jX4.1 ⟨⟨Nat.le_of_ble_eq_true rfl, Nat.le_of_ble_eq_true rfl⟩, Nat.le_of_ble_eq_true rfl, Nat.le_of_ble_eq_true rfl⟩ (Nat.le_of_ble_eq_true rfl) rfl [0, 1] rfl rfl dX4_takeBack_21 ?_
    intro _ _
    dsimp only [jpush]
    refine J.astore_n g dX4_takeBack_24 rfl rfl rfl ?_
    try dsimp only [List.set_cons_zero, List.set_cons_succ]
    refine J.aload_n g dX4_takeBack_25 rfl rfl ?_
    refine J.get g jX4 2 (by decide) lf_X4_21 0 rfl rfl dX4_takeBack_26 ?_
    refine J.iconstN g 1 dX4_takeBack_29 ?_
    refine J.icmp_ltN g dX4_takeBack_30 (tgt := 37) (by decide) (by omega) (by omega) (fun c_30 => absurd c_30 (by omega)) (fun c_30 => ?_)
    refine J.aload_n g dX4_takeBack_33 rfl rfl ?_
    refine J.ifnonnull g dX4_takeBack_34 (tgt := 38) (by decide) ?_
    refine J.aload_n g dX4_takeBack_38 rfl rfl ?_
    refine J.aload_n g dX4_takeBack_39 rfl rfl ?_
    refine J.callV g (c_X6_copyFrom l γ _ _ _ _ _ _ _ _ (hl 2 (by decide))) jy_X6_copyFrom lm_X4_29 (q0 := 18) rfl jX6.1 ⟨⟨Nat.le_of_ble_eq_true rfl, Nat.le_of_ble_eq_true rfl⟩, Nat.le_of_ble_eq_true rfl, Nat.le_of_ble_eq_true rfl⟩ (Nat.le_of_ble_eq_true rfl) rfl [18, 19, 6, 7] rfl (fun _ => rfl) rfl dX4_takeBack_40 ?_
    intro u_40 h_40
    dsimp only [jput, List.set_cons_zero, List.set_cons_succ, Option.toList, List.append, List.cons_append, List.nil_append, List.append_nil]
    refine J.aload_n g dX4_takeBack_43 rfl rfl ?_
    refine J.iload_n g dX4_takeBack_44 rfl rfl ?_
    refine J.put g jX4 1 (by decide) lf_X4_17 0 rfl rfl (Nat.le_of_ble_eq_true rfl) rfl rfl dX4_takeBack_45 ?_
    try dsimp only [List.set_cons_zero, List.set_cons_succ]
    refine J.aload_n g dX4_takeBack_48 rfl rfl ?_
    refine J.dup g dX4_takeBack_49 rfl ?_
    refine J.get g jX4 2 (by decide) lf_X4_21 0 rfl rfl dX4_takeBack_50 ?_
    refine J.iconstN g 1 dX4_takeBack_53 ?_
    refine J.isubN g dX4_takeBack_54 (by omega) ?_
    refine J.put g jX4 2 (by decide) lf_X4_21 0 rfl rfl (Nat.le_of_ble_eq_true rfl) rfl rfl dX4_takeBack_55 ?_
    try dsimp only [List.set_cons_zero, List.set_cons_succ]
    exact J.vret g hE u_40 rfl h_40 rfl ⟨Nat.le_of_ble_eq_true rfl, Nat.le_of_ble_eq_true rfl⟩ dX4_takeBack_58
  · refine J.aload_n g dX4_takeBack_0 rfl rfl ?_
    refine J.get g jX4 1 (by decide) lf_X4_17 0 rfl rfl dX4_takeBack_1 ?_
    refine J.if_leN g dX4_takeBack_4 (tgt := 16) (by decide) (by omega) (fun c_4 => absurd c_4 (by omega)) (fun c_4 => ?_)
    refine J.aload_n g dX4_takeBack_7 rfl rfl ?_
    refine J.get g jX4 1 (by decide) lf_X4_17 0 rfl rfl dX4_takeBack_8 ?_
    refine J.iconstN g 1 dX4_takeBack_11 ?_
    refine J.isubN g dX4_takeBack_12 (by omega) ?_
    refine J.goto g dX4_takeBack_13 (tgt := 18) (by decide) ?_
    refine J.istore_n g dX4_takeBack_18 rfl rfl rfl ?_
    try dsimp only [List.set_cons_zero, List.set_cons_succ]
    refine J.aload_n g dX4_takeBack_19 rfl rfl ?_
    refine J.iload_n g dX4_takeBack_20 rfl rfl ?_
    refine J.callV0 g (c_X4_rowAt l γ _ _ _ _ _ _ (by omega)) jy_X4_rowAt lm_X4_25 (q0 := 0) rfl jX4.1 ⟨⟨Nat.le_of_ble_eq_true rfl, Nat.le_of_ble_eq_true rfl⟩, Nat.le_of_ble_eq_true rfl, Nat.le_of_ble_eq_true rfl⟩ (Nat.le_of_ble_eq_true rfl) rfl [0, 1] rfl rfl dX4_takeBack_21 ?_
    intro _ _
    dsimp only [jpush]
    refine J.astore_n g dX4_takeBack_24 rfl rfl rfl ?_
    try dsimp only [List.set_cons_zero, List.set_cons_succ]
    refine J.aload_n g dX4_takeBack_25 rfl rfl ?_
    refine J.get g jX4 2 (by decide) lf_X4_21 0 rfl rfl dX4_takeBack_26 ?_
    refine J.iconstN g 1 dX4_takeBack_29 ?_
    refine J.icmp_ltN g dX4_takeBack_30 (tgt := 37) (by decide) (by omega) (by omega) (fun c_30 => absurd c_30 (by omega)) (fun c_30 => ?_)
    refine J.aload_n g dX4_takeBack_33 rfl rfl ?_
    refine J.ifnonnull g dX4_takeBack_34 (tgt := 38) (by decide) ?_
    refine J.aload_n g dX4_takeBack_38 rfl rfl ?_
    refine J.aload_n g dX4_takeBack_39 rfl rfl ?_
    refine J.callV g (c_X6_copyFrom l γ _ _ _ _ _ _ _ _ (hl 3 (by decide))) jy_X6_copyFrom lm_X4_29 (q0 := 18) rfl jX6.1 ⟨⟨Nat.le_of_ble_eq_true rfl, Nat.le_of_ble_eq_true rfl⟩, Nat.le_of_ble_eq_true rfl, Nat.le_of_ble_eq_true rfl⟩ (Nat.le_of_ble_eq_true rfl) rfl [18, 19, 8, 9] rfl (fun _ => rfl) rfl dX4_takeBack_40 ?_
    intro u_40 h_40
    dsimp only [jput, List.set_cons_zero, List.set_cons_succ, Option.toList, List.append, List.cons_append, List.nil_append, List.append_nil]
    refine J.aload_n g dX4_takeBack_43 rfl rfl ?_
    refine J.iload_n g dX4_takeBack_44 rfl rfl ?_
    refine J.put g jX4 1 (by decide) lf_X4_17 0 rfl rfl (Nat.le_of_ble_eq_true rfl) rfl rfl dX4_takeBack_45 ?_
    try dsimp only [List.set_cons_zero, List.set_cons_succ]
    refine J.aload_n g dX4_takeBack_48 rfl rfl ?_
    refine J.dup g dX4_takeBack_49 rfl ?_
    refine J.get g jX4 2 (by decide) lf_X4_21 0 rfl rfl dX4_takeBack_50 ?_
    refine J.iconstN g 1 dX4_takeBack_53 ?_
    refine J.isubN g dX4_takeBack_54 (by omega) ?_
    refine J.put g jX4 2 (by decide) lf_X4_21 0 rfl rfl (Nat.le_of_ble_eq_true rfl) rfl rfl dX4_takeBack_55 ?_
    try dsimp only [List.set_cons_zero, List.set_cons_succ]
    exact J.vret g hE u_40 rfl h_40 rfl ⟨Nat.le_of_ble_eq_true rfl, Nat.le_of_ble_eq_true rfl⟩ dX4_takeBack_58
  · refine J.aload_n g dX4_takeBack_0 rfl rfl ?_
    refine J.get g jX4 1 (by decide) lf_X4_17 0 rfl rfl dX4_takeBack_1 ?_
    refine J.if_leN g dX4_takeBack_4 (tgt := 16) (by decide) (by omega) (fun c_4 => absurd c_4 (by omega)) (fun c_4 => ?_)
    refine J.aload_n g dX4_takeBack_7 rfl rfl ?_
    refine J.get g jX4 1 (by decide) lf_X4_17 0 rfl rfl dX4_takeBack_8 ?_
    refine J.iconstN g 1 dX4_takeBack_11 ?_
    refine J.isubN g dX4_takeBack_12 (by omega) ?_
    refine J.goto g dX4_takeBack_13 (tgt := 18) (by decide) ?_
    refine J.istore_n g dX4_takeBack_18 rfl rfl rfl ?_
    try dsimp only [List.set_cons_zero, List.set_cons_succ]
    refine J.aload_n g dX4_takeBack_19 rfl rfl ?_
    refine J.iload_n g dX4_takeBack_20 rfl rfl ?_
    refine J.callV0 g (c_X4_rowAt l γ _ _ _ _ _ _ (by omega)) jy_X4_rowAt lm_X4_25 (q0 := 0) rfl jX4.1 ⟨⟨Nat.le_of_ble_eq_true rfl, Nat.le_of_ble_eq_true rfl⟩, Nat.le_of_ble_eq_true rfl, Nat.le_of_ble_eq_true rfl⟩ (Nat.le_of_ble_eq_true rfl) rfl [0, 1] rfl rfl dX4_takeBack_21 ?_
    intro _ _
    dsimp only [jpush]
    refine J.astore_n g dX4_takeBack_24 rfl rfl rfl ?_
    try dsimp only [List.set_cons_zero, List.set_cons_succ]
    refine J.aload_n g dX4_takeBack_25 rfl rfl ?_
    refine J.get g jX4 2 (by decide) lf_X4_21 0 rfl rfl dX4_takeBack_26 ?_
    refine J.iconstN g 1 dX4_takeBack_29 ?_
    refine J.icmp_ltN g dX4_takeBack_30 (tgt := 37) (by decide) (by omega) (by omega) (fun c_30 => absurd c_30 (by omega)) (fun c_30 => ?_)
    refine J.aload_n g dX4_takeBack_33 rfl rfl ?_
    refine J.ifnonnull g dX4_takeBack_34 (tgt := 38) (by decide) ?_
    refine J.aload_n g dX4_takeBack_38 rfl rfl ?_
    refine J.aload_n g dX4_takeBack_39 rfl rfl ?_
    refine J.callV g (c_X6_copyFrom l γ _ _ _ _ _ _ _ _ (hl 4 (by decide))) jy_X6_copyFrom lm_X4_29 (q0 := 18) rfl jX6.1 ⟨⟨Nat.le_of_ble_eq_true rfl, Nat.le_of_ble_eq_true rfl⟩, Nat.le_of_ble_eq_true rfl, Nat.le_of_ble_eq_true rfl⟩ (Nat.le_of_ble_eq_true rfl) rfl [18, 19, 10, 11] rfl (fun _ => rfl) rfl dX4_takeBack_40 ?_
    intro u_40 h_40
    dsimp only [jput, List.set_cons_zero, List.set_cons_succ, Option.toList, List.append, List.cons_append, List.nil_append, List.append_nil]
    refine J.aload_n g dX4_takeBack_43 rfl rfl ?_
    refine J.iload_n g dX4_takeBack_44 rfl rfl ?_
    refine J.put g jX4 1 (by decide) lf_X4_17 0 rfl rfl (Nat.le_of_ble_eq_true rfl) rfl rfl dX4_takeBack_45 ?_
    try dsimp only [List.set_cons_zero, List.set_cons_succ]
    refine J.aload_n g dX4_takeBack_48 rfl rfl ?_
    refine J.dup g dX4_takeBack_49 rfl ?_
    refine J.get g jX4 2 (by decide) lf_X4_21 0 rfl rfl dX4_takeBack_50 ?_
    refine J.iconstN g 1 dX4_takeBack_53 ?_
    refine J.isubN g dX4_takeBack_54 (by omega) ?_
    refine J.put g jX4 2 (by decide) lf_X4_21 0 rfl rfl (Nat.le_of_ble_eq_true rfl) rfl rfl dX4_takeBack_55 ?_
    try dsimp only [List.set_cons_zero, List.set_cons_succ]
    exact J.vret g hE u_40 rfl h_40 rfl ⟨Nat.le_of_ble_eq_true rfl, Nat.le_of_ble_eq_true rfl⟩ dX4_takeBack_58
  · refine J.aload_n g dX4_takeBack_0 rfl rfl ?_
    refine J.get g jX4 1 (by decide) lf_X4_17 0 rfl rfl dX4_takeBack_1 ?_
    refine J.if_leN g dX4_takeBack_4 (tgt := 16) (by decide) (by omega) (fun c_4 => absurd c_4 (by omega)) (fun c_4 => ?_)
    refine J.aload_n g dX4_takeBack_7 rfl rfl ?_
    refine J.get g jX4 1 (by decide) lf_X4_17 0 rfl rfl dX4_takeBack_8 ?_
    refine J.iconstN g 1 dX4_takeBack_11 ?_
    refine J.isubN g dX4_takeBack_12 (by omega) ?_
    refine J.goto g dX4_takeBack_13 (tgt := 18) (by decide) ?_
    refine J.istore_n g dX4_takeBack_18 rfl rfl rfl ?_
    try dsimp only [List.set_cons_zero, List.set_cons_succ]
    refine J.aload_n g dX4_takeBack_19 rfl rfl ?_
    refine J.iload_n g dX4_takeBack_20 rfl rfl ?_
    refine J.callV0 g (c_X4_rowAt l γ _ _ _ _ _ _ (by omega)) jy_X4_rowAt lm_X4_25 (q0 := 0) rfl jX4.1 ⟨⟨Nat.le_of_ble_eq_true rfl, Nat.le_of_ble_eq_true rfl⟩, Nat.le_of_ble_eq_true rfl, Nat.le_of_ble_eq_true rfl⟩ (Nat.le_of_ble_eq_true rfl) rfl [0, 1] rfl rfl dX4_takeBack_21 ?_
    intro _ _
    dsimp only [jpush]
    refine J.astore_n g dX4_takeBack_24 rfl rfl rfl ?_
    try dsimp only [List.set_cons_zero, List.set_cons_succ]
    refine J.aload_n g dX4_takeBack_25 rfl rfl ?_
    refine J.get g jX4 2 (by decide) lf_X4_21 0 rfl rfl dX4_takeBack_26 ?_
    refine J.iconstN g 1 dX4_takeBack_29 ?_
    refine J.icmp_ltN g dX4_takeBack_30 (tgt := 37) (by decide) (by omega) (by omega) (fun c_30 => absurd c_30 (by omega)) (fun c_30 => ?_)
    refine J.aload_n g dX4_takeBack_33 rfl rfl ?_
    refine J.ifnonnull g dX4_takeBack_34 (tgt := 38) (by decide) ?_
    refine J.aload_n g dX4_takeBack_38 rfl rfl ?_
    refine J.aload_n g dX4_takeBack_39 rfl rfl ?_
    refine J.callV g (c_X6_copyFrom l γ _ _ _ _ _ _ _ _ (hl 5 (by decide))) jy_X6_copyFrom lm_X4_29 (q0 := 18) rfl jX6.1 ⟨⟨Nat.le_of_ble_eq_true rfl, Nat.le_of_ble_eq_true rfl⟩, Nat.le_of_ble_eq_true rfl, Nat.le_of_ble_eq_true rfl⟩ (Nat.le_of_ble_eq_true rfl) rfl [18, 19, 12, 13] rfl (fun _ => rfl) rfl dX4_takeBack_40 ?_
    intro u_40 h_40
    dsimp only [jput, List.set_cons_zero, List.set_cons_succ, Option.toList, List.append, List.cons_append, List.nil_append, List.append_nil]
    refine J.aload_n g dX4_takeBack_43 rfl rfl ?_
    refine J.iload_n g dX4_takeBack_44 rfl rfl ?_
    refine J.put g jX4 1 (by decide) lf_X4_17 0 rfl rfl (Nat.le_of_ble_eq_true rfl) rfl rfl dX4_takeBack_45 ?_
    try dsimp only [List.set_cons_zero, List.set_cons_succ]
    refine J.aload_n g dX4_takeBack_48 rfl rfl ?_
    refine J.dup g dX4_takeBack_49 rfl ?_
    refine J.get g jX4 2 (by decide) lf_X4_21 0 rfl rfl dX4_takeBack_50 ?_
    refine J.iconstN g 1 dX4_takeBack_53 ?_
    refine J.isubN g dX4_takeBack_54 (by omega) ?_
    refine J.put g jX4 2 (by decide) lf_X4_21 0 rfl rfl (Nat.le_of_ble_eq_true rfl) rfl rfl dX4_takeBack_55 ?_
    try dsimp only [List.set_cons_zero, List.set_cons_succ]
    exact J.vret g hE u_40 rfl h_40 rfl ⟨Nat.le_of_ble_eq_true rfl, Nat.le_of_ble_eq_true rfl⟩ dX4_takeBack_58
  · refine J.aload_n g dX4_takeBack_0 rfl rfl ?_
    refine J.get g jX4 1 (by decide) lf_X4_17 0 rfl rfl dX4_takeBack_1 ?_
    refine J.if_leN g dX4_takeBack_4 (tgt := 16) (by decide) (by omega) (fun c_4 => absurd c_4 (by omega)) (fun c_4 => ?_)
    refine J.aload_n g dX4_takeBack_7 rfl rfl ?_
    refine J.get g jX4 1 (by decide) lf_X4_17 0 rfl rfl dX4_takeBack_8 ?_
    refine J.iconstN g 1 dX4_takeBack_11 ?_
    refine J.isubN g dX4_takeBack_12 (by omega) ?_
    refine J.goto g dX4_takeBack_13 (tgt := 18) (by decide) ?_
    refine J.istore_n g dX4_takeBack_18 rfl rfl rfl ?_
    try dsimp only [List.set_cons_zero, List.set_cons_succ]
    refine J.aload_n g dX4_takeBack_19 rfl rfl ?_
    refine J.iload_n g dX4_takeBack_20 rfl rfl ?_
    refine J.callV0 g (c_X4_rowAt l γ _ _ _ _ _ _ (by omega)) jy_X4_rowAt lm_X4_25 (q0 := 0) rfl jX4.1 ⟨⟨Nat.le_of_ble_eq_true rfl, Nat.le_of_ble_eq_true rfl⟩, Nat.le_of_ble_eq_true rfl, Nat.le_of_ble_eq_true rfl⟩ (Nat.le_of_ble_eq_true rfl) rfl [0, 1] rfl rfl dX4_takeBack_21 ?_
    intro _ _
    dsimp only [jpush]
    refine J.astore_n g dX4_takeBack_24 rfl rfl rfl ?_
    try dsimp only [List.set_cons_zero, List.set_cons_succ]
    refine J.aload_n g dX4_takeBack_25 rfl rfl ?_
    refine J.get g jX4 2 (by decide) lf_X4_21 0 rfl rfl dX4_takeBack_26 ?_
    refine J.iconstN g 1 dX4_takeBack_29 ?_
    refine J.icmp_ltN g dX4_takeBack_30 (tgt := 37) (by decide) (by omega) (by omega) (fun c_30 => absurd c_30 (by omega)) (fun c_30 => ?_)
    refine J.aload_n g dX4_takeBack_33 rfl rfl ?_
    refine J.ifnonnull g dX4_takeBack_34 (tgt := 38) (by decide) ?_
    refine J.aload_n g dX4_takeBack_38 rfl rfl ?_
    refine J.aload_n g dX4_takeBack_39 rfl rfl ?_
    refine J.callV g (c_X6_copyFrom l γ _ _ _ _ _ _ _ _ (hl 6 (by decide))) jy_X6_copyFrom lm_X4_29 (q0 := 18) rfl jX6.1 ⟨⟨Nat.le_of_ble_eq_true rfl, Nat.le_of_ble_eq_true rfl⟩, Nat.le_of_ble_eq_true rfl, Nat.le_of_ble_eq_true rfl⟩ (Nat.le_of_ble_eq_true rfl) rfl [18, 19, 14, 15] rfl (fun _ => rfl) rfl dX4_takeBack_40 ?_
    intro u_40 h_40
    dsimp only [jput, List.set_cons_zero, List.set_cons_succ, Option.toList, List.append, List.cons_append, List.nil_append, List.append_nil]
    refine J.aload_n g dX4_takeBack_43 rfl rfl ?_
    refine J.iload_n g dX4_takeBack_44 rfl rfl ?_
    refine J.put g jX4 1 (by decide) lf_X4_17 0 rfl rfl (Nat.le_of_ble_eq_true rfl) rfl rfl dX4_takeBack_45 ?_
    try dsimp only [List.set_cons_zero, List.set_cons_succ]
    refine J.aload_n g dX4_takeBack_48 rfl rfl ?_
    refine J.dup g dX4_takeBack_49 rfl ?_
    refine J.get g jX4 2 (by decide) lf_X4_21 0 rfl rfl dX4_takeBack_50 ?_
    refine J.iconstN g 1 dX4_takeBack_53 ?_
    refine J.isubN g dX4_takeBack_54 (by omega) ?_
    refine J.put g jX4 2 (by decide) lf_X4_21 0 rfl rfl (Nat.le_of_ble_eq_true rfl) rfl rfl dX4_takeBack_55 ?_
    try dsimp only [List.set_cons_zero, List.set_cons_succ]
    exact J.vret g hE u_40 rfl h_40 rfl ⟨Nat.le_of_ble_eq_true rfl, Nat.le_of_ble_eq_true rfl⟩ dX4_takeBack_58
set_option maxHeartbeats 4000000 in
set_option maxRecDepth 100000 in
theorem c_X1_isKept (l : Launch) (γ : jγ) (im ir ic : Nat) (ik : Bool)  : jM (S := Unit) l γ yX1_isKept cX1_isKept 1 (some .boolean) ({ frames := 0, cells := 0, slots := 0, locals := 0 } : Room) [.ref im] [(im, .inr (1, [.ref ir, .int (nI ic), .int (jB ik)]))] (fun w0 => some (.int (jB ik))) (fun w0 => [(im, .inr (1, [.ref ir, .int (nI ic), .int (jB ik)]))]) (fun w0 => True) := by
  refine jM.of [some (.ref im)] rfl (Nat.le_of_ble_eq_true rfl) (by decide) ?_
  intro x g hE hin
  refine J.aload_n g dX1_isKept_0 rfl rfl ?_
  refine J.get g jX1 2 (by decide) lf_X1_20 0 rfl rfl dX1_isKept_1 ?_
  exact J.zret (by first | rfl | exact j_nz _) g hE () rfl trivial rfl ⟨Nat.le_of_ble_eq_true rfl, Nat.le_of_ble_eq_true rfl⟩ dX1_isKept_4
set_option maxHeartbeats 4000000 in
set_option maxRecDepth 100000 in
theorem c_X1_keep (l : Launch) (γ : jγ) (im ir ie ic : Nat) (ik : Bool) (il : Nat) (iff : Nat → Nat) (gr mk ag cd pt od ex : Nat) (mf af : Nat → Nat) (a e n : Nat) (f : Nat → Nat) (hn : n ≤ 12) : jM (S := Nat → Nat) l γ yX1_keep cX1_keep 3 none ({ frames := 1, cells := 0, slots := 0, locals := 22 } : Room) [.ref im, .ref gr, .ref a] [(im, .inr (1, [.ref ir, .int (nI ic), .int (jB ik)])), (ir, .inr (6, [.ref ie, .int (nI il)])), (ie, .inl (γ.2 0, 12, .inl (fun j => nI (iff j)))), (gr, .inr (0, [.ref mk, .ref ag, .int (nI cd), .int (nI pt), .int (nI od), .int (nI ex)])), (mk, .inl (γ.2 1, 576, .inl (fun j => nI (mf j)))), (ag, .inl (γ.2 1, 24, .inl (fun j => nI (af j)))), (a, .inr (6, [.ref e, .int (nI n)])), (e, .inl (γ.2 0, 12, .inl (fun j => nI (f j))))] (fun u => none) (fun u => [(im, .inr (1, [.ref ir, .int (nI cd), .int (jB true)])), (ir, .inr (6, [.ref ie, .int (nI n)])), (ie, .inl (γ.2 0, 12, .inl (fun j => nI (u j)))), (gr, .inr (0, [.ref mk, .ref ag, .int (nI cd), .int (nI pt), .int (nI od), .int (nI ex)])), (mk, .inl (γ.2 1, 576, .inl (fun j => nI (mf j)))), (ag, .inl (γ.2 1, 24, .inl (fun j => nI (af j)))), (a, .inr (6, [.ref e, .int (nI n)])), (e, .inl (γ.2 0, 12, .inl (fun j => nI (f j))))]) (fun u => ∀ k, k < n → u k = f k) := by
  refine jM.of [some (.ref im), some (.ref gr), some (.ref a)] rfl (Nat.le_of_ble_eq_true rfl) (by decide) ?_
  intro x g hE hin
  refine J.aload_n g dX1_keep_0 rfl rfl ?_
  refine J.iconstN g 1 dX1_keep_1 ?_
  refine J.put g jX1 2 (by decide) lf_X1_20 0 rfl rfl (Nat.le_of_ble_eq_true rfl) rfl rfl dX1_keep_2 ?_
  try dsimp only [List.set_cons_zero, List.set_cons_succ]
  refine J.aload_n g dX1_keep_5 rfl rfl ?_
  refine J.aload_n g dX1_keep_6 rfl rfl ?_
  refine J.callV0 g (c_X0_code l γ _ _ _ _ _ _ _ _ _ ) jy_X0_code lm_X1_24 (q0 := 3) rfl jX0.1 ⟨⟨Nat.le_of_ble_eq_true rfl, Nat.le_of_ble_eq_true rfl⟩, Nat.le_of_ble_eq_true rfl, Nat.le_of_ble_eq_true rfl⟩ (Nat.le_of_ble_eq_true rfl) rfl [3, 4, 5] rfl rfl dX1_keep_7 ?_
  intro _ _
  dsimp only [jpush]
  refine J.put g jX1 1 (by decide) lf_X1_16 0 rfl rfl (Nat.le_of_ble_eq_true rfl) rfl rfl dX1_keep_10 ?_
  try dsimp only [List.set_cons_zero, List.set_cons_succ]
  refine J.aload_n g dX1_keep_13 rfl rfl ?_
  refine J.get g jX1 0 (by decide) lf_X1_10 0 rfl rfl dX1_keep_14 ?_
  refine J.aload_n g dX1_keep_17 rfl rfl ?_
  refine J.callV g (c_X6_copyFrom l γ _ _ _ _ _ _ _ _ (by omega)) jy_X6_copyFrom lm_X1_30 (q0 := 1) rfl jX6.1 ⟨⟨Nat.le_of_ble_eq_true rfl, Nat.le_of_ble_eq_true rfl⟩, Nat.le_of_ble_eq_true rfl, Nat.le_of_ble_eq_true rfl⟩ (Nat.le_of_ble_eq_true rfl) rfl [1, 2, 6, 7] rfl (fun _ => rfl) rfl dX1_keep_18 ?_
  intro u_18 h_18
  dsimp only [jput, List.set_cons_zero, List.set_cons_succ, Option.toList, List.append, List.cons_append, List.nil_append, List.append_nil]
  exact J.vret g hE u_18 rfl h_18 rfl ⟨Nat.le_of_ble_eq_true rfl, Nat.le_of_ble_eq_true rfl⟩ dX1_keep_21
set_option maxHeartbeats 4000000 in
set_option maxRecDepth 100000 in
theorem c_X1_giveBack (l : Launch) (γ : jγ) (im ir ie ic : Nat) (ik : Bool) (il : Nat) (iff : Nat → Nat) (gr mk ag cd pt od ex : Nat) (mf af : Nat → Nat) (a e n : Nat) (f : Nat → Nat) (hG : gIs cd pt od ex mf af) (hc : ic ∈ jcodes) (hl : il ≤ 12) : jM (S := ((Nat → Nat) × (Nat → Nat)) × (Nat → Nat)) l γ yX1_giveBack cX1_giveBack 3 none ({ frames := 5, cells := 0, slots := 0, locals := 113 } : Room) [.ref im, .ref gr, .ref a] [(im, .inr (1, [.ref ir, .int (nI ic), .int (jB ik)])), (ir, .inr (6, [.ref ie, .int (nI il)])), (ie, .inl (γ.2 0, 12, .inl (fun j => nI (iff j)))), (gr, .inr (0, [.ref mk, .ref ag, .int (nI cd), .int (nI pt), .int (nI od), .int (nI ex)])), (mk, .inl (γ.2 1, 576, .inl (fun j => nI (mf j)))), (ag, .inl (γ.2 1, 24, .inl (fun j => nI (af j)))), (a, .inr (6, [.ref e, .int (nI n)])), (e, .inl (γ.2 0, 12, .inl (fun j => nI (f j))))] (fun u => none) (fun u => [(im, .inr (1, [.ref ir, .int (nI ic), .int (jB ik)])), (ir, .inr (6, [.ref ie, .int (nI il)])), (ie, .inl (γ.2 0, 12, .inl (fun j => nI (iff j)))), (gr, .inr (0, [.ref mk, .ref ag, .int (nI ic), .int (nI (gpt ic)), .int (nI (god ic)), .int (nI (gex ic))])), (mk, .inl (γ.2 1, 576, .inl (fun j => nI (u.1.1 j)))), (ag, .inl (γ.2 1, 24, .inl (fun j => nI (u.1.2 j)))), (a, .inr (6, [.ref e, .int (nI il)])), (e, .inl (γ.2 0, 12, .inl (fun j => nI (u.2 j))))]) (fun u => gIs ic (gpt ic) (god ic) (gex ic) u.1.1 u.1.2 ∧ ∀ k, k < il → u.2 k = iff k) := by
  refine jM.of [some (.ref im), some (.ref gr), some (.ref a)] rfl (Nat.le_of_ble_eq_true rfl) (by decide) ?_
  intro x g hE hin
  refine J.aload_n g dX1_giveBack_0 rfl rfl ?_
  refine J.aload_n g dX1_giveBack_1 rfl rfl ?_
  refine J.get g jX1 1 (by decide) lf_X1_16 0 rfl rfl dX1_giveBack_2 ?_
  refine J.callV g (c_X0_become l γ _ _ _ _ _ _ _ _ _ _ hG hc) jy_X0_become lm_X1_34 (q0 := 3) rfl jX0.1 ⟨⟨Nat.le_of_ble_eq_true rfl, Nat.le_of_ble_eq_true rfl⟩, Nat.le_of_ble_eq_true rfl, Nat.le_of_ble_eq_true rfl⟩ (Nat.le_of_ble_eq_true rfl) rfl [3, 4, 5] rfl (fun _ => rfl) rfl dX1_giveBack_5 ?_
  intro u_5 h_5
  dsimp only [jput, List.set_cons_zero, List.set_cons_succ, Option.toList, List.append, List.cons_append, List.nil_append, List.append_nil]
  refine J.aload_n g dX1_giveBack_8 rfl rfl ?_
  refine J.aload_n g dX1_giveBack_9 rfl rfl ?_
  refine J.get g jX1 0 (by decide) lf_X1_10 0 rfl rfl dX1_giveBack_10 ?_
  refine J.callV g (c_X6_copyFrom l γ _ _ _ _ _ _ _ _ (by omega)) jy_X6_copyFrom lm_X1_30 (q0 := 6) rfl jX6.1 ⟨⟨Nat.le_of_ble_eq_true rfl, Nat.le_of_ble_eq_true rfl⟩, Nat.le_of_ble_eq_true rfl, Nat.le_of_ble_eq_true rfl⟩ (Nat.le_of_ble_eq_true rfl) rfl [6, 7, 1, 2] rfl (fun _ => rfl) rfl dX1_giveBack_13 ?_
  intro u_13 h_13
  dsimp only [jput, List.set_cons_zero, List.set_cons_succ, Option.toList, List.append, List.cons_append, List.nil_append, List.append_nil]
  exact J.vret g hE (u_5, u_13) rfl ⟨h_5, h_13⟩ rfl ⟨Nat.le_of_ble_eq_true rfl, Nat.le_of_ble_eq_true rfl⟩ dX1_giveBack_16
