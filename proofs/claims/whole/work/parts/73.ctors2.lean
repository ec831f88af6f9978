set_option maxHeartbeats 4000000 in
set_option maxRecDepth 100000 in
theorem c_X10_init (l : Launch) (γ : jγ) (ns : Nat)  : jM (S := Nat → Nat) l γ yX10_init cX10_init 2 none ({ frames := 3, cells := 85, slots := 14115, locals := 61 } : Room) [.ref ns] [(ns, .inr (10, [.null, .null, .null, .null, .null, .null, .null, .null, .null, .null, .null, .null, .int (nI 0)]))] (fun u => none) (fun u => [(ns, .inr (10, [.ref (u 2), .ref (u 1), .ref (u 6), .ref (u 9), .ref (u 11), .ref (u 13), .ref (u 15), .ref (u 33), .ref (u 40), .ref (u 69), .ref (u 74), .ref (u 80), .int 0])), ((u 1), .inr (5, [.ref (u 2), .int (nI 0), .int (nI 0), .int (nI 0), .int (nI 0), .int (nI 0), .int (nI 0), .int (nI 0), .int (nI 0), .int (-1), .ref (u 4)])), ((u 2), .inr (9, [.ref (u 3), .int (nI 0)])), ((u 3), .inl (γ.2 1, 340, .inl (fun _ => 0))), ((u 4), .inr (6, [.ref (u 5), .int (nI 0)])), ((u 5), .inl (γ.2 0, 12, .inl (fun j => nI ((fun _ => 0) j)))), ((u 6), .inr (0, [.ref (u 7), .ref (u 8), .int (nI 0), .int (nI 0), .int (nI 0), .int (nI 0)])), ((u 7), .inl (γ.2 1, 576, .inl (fun j => nI ((fun _ => 0) j)))), ((u 8), .inl (γ.2 1, 24, .inl (fun j => nI ((fun _ => 0) j)))), ((u 9), .inr (6, [.ref (u 10), .int (nI 0)])), ((u 10), .inl (γ.2 0, 12, .inl (fun j => nI ((fun _ => 0) j)))), ((u 11), .inr (6, [.ref (u 12), .int (nI 0)])), ((u 12), .inl (γ.2 0, 12, .inl (fun j => nI ((fun _ => 0) j)))), ((u 13), .inr (6, [.ref (u 14), .int (nI 0)])), ((u 14), .inl (γ.2 0, 12, .inl (fun j => nI ((fun _ => 0) j)))), ((u 15), .inr (4, [.ref (u 16), .int (nI 0), .int (nI 0)])), ((u 16), .inl (γ.2 5, 8, .inr (.inr (.inr (.inr (fun i => some (u (17 + 2 * i)))))))), ((u 17), .inr (6, [.ref (u 18), .int (nI 0)])), ((u 18), .inl (γ.2 0, 12, .inl (fun j => nI ((fun _ => 0) j)))), ((u 19), .inr (6, [.ref (u 20), .int (nI 0)])), ((u 20), .inl (γ.2 0, 12, .inl (fun j => nI ((fun _ => 0) j)))), ((u 21), .inr (6, [.ref (u 22), .int (nI 0)])), ((u 22), .inl (γ.2 0, 12, .inl (fun j => nI ((fun _ => 0) j)))), ((u 23), .inr (6, [.ref (u 24), .int (nI 0)])), ((u 24), .inl (γ.2 0, 12, .inl (fun j => nI ((fun _ => 0) j)))), ((u 25), .inr (6, [.ref (u 26), .int (nI 0)])), ((u 26), .inl (γ.2 0, 12, .inl (fun j => nI ((fun _ => 0) j)))), ((u 27), .inr (6, [.ref (u 28), .int (nI 0)])), ((u 28), .inl (γ.2 0, 12, .inl (fun j => nI ((fun _ => 0) j)))), ((u 29), .inr (6, [.ref (u 30), .int (nI 0)])), ((u 30), .inl (γ.2 0, 12, .inl (fun j => nI ((fun _ => 0) j)))), ((u 31), .inr (6, [.ref (u 32), .int (nI 0)])), ((u 32), .inl (γ.2 0, 12, .inl (fun j => nI ((fun _ => 0) j)))), ((u 33), .inl (γ.2 6, 2, .inr (.inr (.inr (.inr (fun i => some (u (34 + 3 * i)))))))), ((u 34), .inr (1, [.ref (u 35), .int (nI 0), .int (jB false)])), ((u 35), .inr (6, [.ref (u 36), .int (nI 0)])), ((u 36), .inl (γ.2 0, 12, .inl (fun j => nI ((fun _ => 0) j)))), ((u 37), .inr (1, [.ref (u 38), .int (nI 0), .int (jB false)])), ((u 38), .inr (6, [.ref (u 39), .int (nI 0)])), ((u 39), .inl (γ.2 0, 12, .inl (fun j => nI ((fun _ => 0) j)))), ((u 40), .inr (8, [.ref (u 41), .ref (u 55), .int (nI 0)])), ((u 41), .inl (γ.2 4, 13, .inr (.inr (.inr (.inr (fun i => some (u (42 + i)))))))), ((u 42), .inl (γ.2 0, 13, .inl (fun j => nI ((fun _ => 0) j)))), ((u 43), .inl (γ.2 0, 13, .inl (fun j => nI ((fun _ => 0) j)))), ((u 44), .inl (γ.2 0, 13, .inl (fun j => nI ((fun _ => 0) j)))), ((u 45), .inl (γ.2 0, 13, .inl (fun j => nI ((fun _ => 0) j)))), ((u 46), .inl (γ.2 0, 13, .inl (fun j => nI ((fun _ => 0) j)))), ((u 47), .inl (γ.2 0, 13, .inl (fun j => nI ((fun _ => 0) j)))), ((u 48), .inl (γ.2 0, 13, .inl (fun j => nI ((fun _ => 0) j)))), ((u 49), .inl (γ.2 0, 13, .inl (fun j => nI ((fun _ => 0) j)))), ((u 50), .inl (γ.2 0, 13, .inl (fun j => nI ((fun _ => 0) j)))), ((u 51), .inl (γ.2 0, 13, .inl (fun j => nI ((fun _ => 0) j)))), ((u 52), .inl (γ.2 0, 13, .inl (fun j => nI ((fun _ => 0) j)))), ((u 53), .inl (γ.2 0, 13, .inl (fun j => nI ((fun _ => 0) j)))), ((u 54), .inl (γ.2 0, 13, .inl (fun j => nI ((fun _ => 0) j)))), ((u 55), .inl (γ.2 4, 13, .inr (.inr (.inr (.inr (fun i => some (u (56 + i)))))))), ((u 56), .inl (γ.2 0, 24, .inl (fun j => nI ((fun _ => 0) j)))), ((u 57), .inl (γ.2 0, 24, .inl (fun j => nI ((fun _ => 0) j)))), ((u 58), .inl (γ.2 0, 24, .inl (fun j => nI ((fun _ => 0) j)))), ((u 59), .inl (γ.2 0, 24, .inl (fun j => nI ((fun _ => 0) j)))), ((u 60), .inl (γ.2 0, 24, .inl (fun j => nI ((fun _ => 0) j)))), ((u 61), .inl (γ.2 0, 24, .inl (fun j => nI ((fun _ => 0) j)))), ((u 62), .inl (γ.2 0, 24, .inl (fun j => nI ((fun _ => 0) j)))), ((u 63), .inl (γ.2 0, 24, .inl (fun j => nI ((fun _ => 0) j)))), ((u 64), .inl (γ.2 0, 24, .inl (fun j => nI ((fun _ => 0) j)))), ((u 65), .inl (γ.2 0, 24, .inl (fun j => nI ((fun _ => 0) j)))), ((u 66), .inl (γ.2 0, 24, .inl (fun j => nI ((fun _ => 0) j)))), ((u 67), .inl (γ.2 0, 24, .inl (fun j => nI ((fun _ => 0) j)))), ((u 68), .inl (γ.2 0, 24, .inl (fun j => nI ((fun _ => 0) j)))), ((u 69), .inr (7, [.ref (u 70), .ref (u 71), .ref (u 72), .ref (u 73)])), ((u 70), .inl (γ.2 0, 24, .inl (fun j => nI ((fun _ => 0) j)))), ((u 71), .inl (γ.2 0, 24, .inl (fun j => nI ((fun _ => 0) j)))), ((u 72), .inl (γ.2 0, 13, .inl (fun j => nI ((fun _ => 0) j)))), ((u 73), .inl (γ.2 0, 13, .inl (fun j => nI ((fun _ => 0) j)))), ((u 74), .inr (3, [.ref (u 75), .ref (u 76), .ref (u 77), .ref (u 78), .int (nI 0), .int (nI 0)])), ((u 75), .inl (γ.2 1, 4096, .inl (fun j => nI ((fun _ => 0) j)))), ((u 76), .inl (γ.2 1, 4096, .inl (fun j => nI ((fun _ => 0) j)))), ((u 77), .inl (γ.2 1, 4096, .inl (fun j => nI ((fun _ => 0) j)))), ((u 78), .inr (6, [.ref (u 79), .int (nI 0)])), ((u 79), .inl (γ.2 0, 12, .inl (fun j => nI ((fun _ => 0) j)))), ((u 80), .inr (2, [.ref (u 81), .ref (u 82), .ref (u 84), .int (nI 0)])), ((u 81), .inl (γ.2 0, 13, .inl (fun j => nI ((fun _ => 0) j)))), ((u 82), .inr (6, [.ref (u 83), .int (nI 0)])), ((u 83), .inl (γ.2 0, 12, .inl (fun j => nI ((fun _ => 0) j)))), ((u 84), .inr (6, [.ref (u 85), .int (nI 0)])), ((u 85), .inl (γ.2 0, 12, .inl (fun j => nI ((fun _ => 0) j))))]) (fun u => u 0 = ns) := by
  refine jM.of [some (.ref ns), none] rfl (Nat.le_of_ble_eq_true rfl) (by decide) ?_
  intro x g hE hin
  refine J.aload_n g dX10_init_0 rfl rfl ?_
  refine J.objInit g dX10_init_1 loi_X10 joi_i joi_c (Nat.le_of_ble_eq_true rfl) ⟨Nat.le_of_ble_eq_true rfl, Nat.le_of_ble_eq_true rfl⟩ ?_
  refine J.aload_n g dX10_init_4 rfl rfl ?_
  refine J.new g tyX5 dX10_init_5 jX5.1 jX5.2.1 jX5.2.2.1 jcl_X10_9 jis_X5 jit_X5 (fs := [.null, .int (nI 0), .int (nI 0), .int (nI 0), .int (nI 0), .int (nI 0), .int (nI 0), .int (nI 0), .int (nI 0), .int (nI 0), .null]) (fun j hj => by rcases (show j = 0 ∨ j = 1 ∨ j = 2 ∨ j = 3 ∨ j = 4 ∨ j = 5 ∨ j = 6 ∨ j = 7 ∨ j = 8 ∨ j = 9 ∨ j = 10 by omega) with rfl | rfl | rfl | rfl | rfl | rfl | rfl | rfl | rfl | rfl | rfl <;> rfl) (Nat.le_of_ble_eq_true rfl) (Nat.le_of_ble_eq_true rfl) (fun q1 => ?_)
  try dsimp only [List.append, List.cons_append, List.nil_append, List.append_assoc]
  refine J.dup g dX10_init_8 rfl ?_
  refine J.callIN g (c_X5_init l γ _) jy_X5_init jnl_X10_11 rfl ⟨⟨Nat.le_of_ble_eq_true rfl, Nat.le_of_ble_eq_true rfl⟩, Nat.le_of_ble_eq_true rfl, Nat.le_of_ble_eq_true rfl⟩ (Nat.le_of_ble_eq_true rfl) rfl [1] rfl (fun _ => rfl) rfl dX10_init_9 ?_
  intro v2 _
  dsimp only [jput, List.set_cons_zero, List.set_cons_succ, Option.toList, List.append, List.cons_append, List.nil_append, List.append_nil, List.append_assoc]
  refine J.putF g jX10 1 (by decide) lf_X10_12 0 rfl rfl hin rfl (Nat.le_of_ble_eq_true rfl) rfl rfl dX10_init_12 ?_
  try dsimp only [List.set_cons_zero, List.set_cons_succ]
  refine J.aload_n g dX10_init_15 rfl rfl ?_
  refine J.aload_n g dX10_init_16 rfl rfl ?_
  refine J.get g jX10 1 (by decide) lf_X10_12 0 rfl rfl dX10_init_17 ?_
  refine J.callV0 g (c_X5_tape l γ _ _ _ _ _ _ _ _ _ _ _ _ ) jy_X5_tape lm_X10_16 (q0 := 1) rfl jX5.1 ⟨⟨Nat.le_of_ble_eq_true rfl, Nat.le_of_ble_eq_true rfl⟩, Nat.le_of_ble_eq_true rfl, Nat.le_of_ble_eq_true rfl⟩ (Nat.le_of_ble_eq_true rfl) rfl [1] rfl rfl dX10_init_20 ?_
  intro _ _
  dsimp only [jpush]
  refine J.putF g jX10 0 (by decide) lf_X10_20 0 rfl rfl hin rfl (Nat.le_of_ble_eq_true rfl) rfl rfl dX10_init_23 ?_
  try dsimp only [List.set_cons_zero, List.set_cons_succ]
  refine J.aload_n g dX10_init_26 rfl rfl ?_
  refine J.new g tyX0 dX10_init_27 jX0.1 jX0.2.1 jX0.2.2.1 jcl_X10_23 jis_X0 jit_X0 (fs := [.null, .null, .int (nI 0), .int (nI 0), .int (nI 0), .int (nI 0)]) (fun j hj => by rcases (show j = 0 ∨ j = 1 ∨ j = 2 ∨ j = 3 ∨ j = 4 ∨ j = 5 by omega) with rfl | rfl | rfl | rfl | rfl | rfl <;> rfl) (Nat.le_of_ble_eq_true rfl) (Nat.le_of_ble_eq_true rfl) (fun q3 => ?_)
  try dsimp only [List.append, List.cons_append, List.nil_append, List.append_assoc]
  refine J.dup g dX10_init_30 rfl ?_
  refine J.callIN g (c_X0_init l γ _) jy_X0_init jnl_X10_25 rfl ⟨⟨Nat.le_of_ble_eq_true rfl, Nat.le_of_ble_eq_true rfl⟩, Nat.le_of_ble_eq_true rfl, Nat.le_of_ble_eq_true rfl⟩ (Nat.le_of_ble_eq_true rfl) rfl [6] rfl (fun _ => rfl) rfl dX10_init_31 ?_
  intro v4 _
  dsimp only [jput, List.set_cons_zero, List.set_cons_succ, Option.toList, List.append, List.cons_append, List.nil_append, List.append_nil, List.append_assoc]
  refine J.putF g jX10 2 (by decide) lf_X10_26 0 rfl rfl hin rfl (Nat.le_of_ble_eq_true rfl) rfl rfl dX10_init_34 ?_
  try dsimp only [List.set_cons_zero, List.set_cons_succ]
  refine J.aload_n g dX10_init_37 rfl rfl ?_
  refine J.new g tyX6 dX10_init_38 jX6.1 jX6.2.1 jX6.2.2.1 jcl_X10_30 jis_X6 jit_X6 (fs := [.null, .int (nI 0)]) (fun j hj => by rcases (show j = 0 ∨ j = 1 by omega) with rfl | rfl <;> rfl) (Nat.le_of_ble_eq_true rfl) (Nat.le_of_ble_eq_true rfl) (fun q5 => ?_)
  try dsimp only [List.append, List.cons_append, List.nil_append, List.append_assoc]
  refine J.dup g dX10_init_41 rfl ?_
  refine J.callIN g (c_X6_init l γ _) jy_X6_init jnl_X10_32 rfl ⟨⟨Nat.le_of_ble_eq_true rfl, Nat.le_of_ble_eq_true rfl⟩, Nat.le_of_ble_eq_true rfl, Nat.le_of_ble_eq_true rfl⟩ (Nat.le_of_ble_eq_true rfl) rfl [9] rfl (fun _ => rfl) rfl dX10_init_42 ?_
  intro v6 _
  dsimp only [jput, List.set_cons_zero, List.set_cons_succ, Option.toList, List.append, List.cons_append, List.nil_append, List.append_nil, List.append_assoc]
  refine J.putF g jX10 3 (by decide) lf_X10_33 0 rfl rfl hin rfl (Nat.le_of_ble_eq_true rfl) rfl rfl dX10_init_45 ?_
  try dsimp only [List.set_cons_zero, List.set_cons_succ]
  refine J.aload_n g dX10_init_48 rfl rfl ?_
  refine J.new g tyX6 dX10_init_49 jX6.1 jX6.2.1 jX6.2.2.1 jcl_X10_30 jis_X6 jit_X6 (fs := [.null, .int (nI 0)]) (fun j hj => by rcases (show j = 0 ∨ j = 1 by omega) with rfl | rfl <;> rfl) (Nat.le_of_ble_eq_true rfl) (Nat.le_of_ble_eq_true rfl) (fun q7 => ?_)
  try dsimp only [List.append, List.cons_append, List.nil_append, List.append_assoc]
  refine J.dup g dX10_init_52 rfl ?_
  refine J.callIN g (c_X6_init l γ _) jy_X6_init jnl_X10_32 rfl ⟨⟨Nat.le_of_ble_eq_true rfl, Nat.le_of_ble_eq_true rfl⟩, Nat.le_of_ble_eq_true rfl, Nat.le_of_ble_eq_true rfl⟩ (Nat.le_of_ble_eq_true rfl) rfl [11] rfl (fun _ => rfl) rfl dX10_init_53 ?_
  intro v8 _
  dsimp only [jput, List.set_cons_zero, List.set_cons_succ, Option.toList, List.append, List.cons_append, List.nil_append, List.append_nil, List.append_assoc]
  refine J.putF g jX10 4 (by decide) lf_X10_37 0 rfl rfl hin rfl (Nat.le_of_ble_eq_true rfl) rfl rfl dX10_init_56 ?_
  try dsimp only [List.set_cons_zero, List.set_cons_succ]
  refine J.aload_n g dX10_init_59 rfl rfl ?_
  refine J.new g tyX6 dX10_init_60 jX6.1 jX6.2.1 jX6.2.2.1 jcl_X10_30 jis_X6 jit_X6 (fs := [.null, .int (nI 0)]) (fun j hj => by rcases (show j = 0 ∨ j = 1 by omega) with rfl | rfl <;> rfl) (Nat.le_of_ble_eq_true rfl) (Nat.le_of_ble_eq_true rfl) (fun q9 => ?_)
  try dsimp only [List.append, List.cons_append, List.nil_append, List.append_assoc]
  refine J.dup g dX10_init_63 rfl ?_
  refine J.callIN g (c_X6_init l γ _) jy_X6_init jnl_X10_32 rfl ⟨⟨Nat.le_of_ble_eq_true rfl, Nat.le_of_ble_eq_true rfl⟩, Nat.le_of_ble_eq_true rfl, Nat.le_of_ble_eq_true rfl⟩ (Nat.le_of_ble_eq_true rfl) rfl [13] rfl (fun _ => rfl) rfl dX10_init_64 ?_
  intro v10 _
  dsimp only [jput, List.set_cons_zero, List.set_cons_succ, Option.toList, List.append, List.cons_append, List.nil_append, List.append_nil, List.append_assoc]
  refine J.putF g jX10 5 (by decide) lf_X10_40 0 rfl rfl hin rfl (Nat.le_of_ble_eq_true rfl) rfl rfl dX10_init_67 ?_
  try dsimp only [List.set_cons_zero, List.set_cons_succ]
  refine J.aload_n g dX10_init_70 rfl rfl ?_
  refine J.new g tyX4 dX10_init_71 jX4.1 jX4.2.1 jX4.2.2.1 jcl_X10_43 jis_X4 jit_X4 (fs := [.null, .int (nI 0), .int (nI 0)]) (fun j hj => by rcases (show j = 0 ∨ j = 1 ∨ j = 2 by omega) with rfl | rfl | rfl <;> rfl) (Nat.le_of_ble_eq_true rfl) (Nat.le_of_ble_eq_true rfl) (fun q11 => ?_)
  try dsimp only [List.append, List.cons_append, List.nil_append, List.append_assoc]
  refine J.dup g dX10_init_74 rfl ?_
  refine J.callI g (c_X4_init l γ _) jy_X4_init lm_X10_45 rfl ⟨⟨Nat.le_of_ble_eq_true rfl, Nat.le_of_ble_eq_true rfl⟩, Nat.le_of_ble_eq_true rfl, Nat.le_of_ble_eq_true rfl⟩ (Nat.le_of_ble_eq_true rfl) rfl [15] rfl (fun _ => rfl) rfl dX10_init_75 ?_
  intro v12 _
  dsimp only [jput, List.set_cons_zero, List.set_cons_succ, Option.toList, List.append, List.cons_append, List.nil_append, List.append_nil, List.append_assoc]
  refine J.putF g jX10 6 (by decide) lf_X10_46 0 rfl rfl hin rfl (Nat.le_of_ble_eq_true rfl) rfl rfl dX10_init_78 ?_
  try dsimp only [List.set_cons_zero, List.set_cons_succ]
  refine J.aload_n g dX10_init_81 rfl rfl ?_
  refine J.iconstN g 2 dX10_init_82 ?_
  refine J.newq2 g (N := 2) (i := 6) dX10_init_83 jcl_X10_50 (by decide) rfl (nI_pos (by decide)) (nI_clamp (by decide)) (Nat.le_of_ble_eq_true rfl) (Nat.le_of_ble_eq_true rfl) (Nat.le_of_ble_eq_true rfl) (fun q13 => ?_)
  try dsimp only [List.append, List.cons_append, List.nil_append, List.append_assoc]
  refine J.putF g jX10 7 (by decide) lf_X10_52 0 rfl rfl hin rfl (Nat.le_of_ble_eq_true rfl) rfl rfl dX10_init_86 ?_
  try dsimp only [List.set_cons_zero, List.set_cons_succ]
  refine J.iconstN g 0 dX10_init_89 ?_
  refine J.istore_n g dX10_init_90 rfl rfl rfl ?_
  try dsimp only [List.set_cons_zero, List.set_cons_succ]
  refine J.iload_n g dX10_init_91 rfl rfl ?_
  refine J.iconstN g 2 dX10_init_92 ?_
  refine J.icmp_geN g dX10_init_93 (tgt := 115) (by decide) (by omega) (by omega) (fun c_93 => absurd c_93 (by omega)) (fun c_93 => ?_)
  refine J.aload_n g dX10_init_96 rfl rfl ?_
  refine J.get g jX10 7 (by decide) lf_X10_52 0 rfl rfl dX10_init_97 ?_
  refine J.iload_n g dX10_init_100 rfl rfl ?_
  refine J.new g tyX1 dX10_init_101 jX1.1 jX1.2.1 jX1.2.2.1 jcl_X10_50 jis_X1 jit_X1 (fs := [.null, .int (nI 0), .int (jB false)]) (fun j hj => by rcases (show j = 0 ∨ j = 1 ∨ j = 2 by omega) with rfl | rfl | rfl <;> rfl) (Nat.le_of_ble_eq_true rfl) (Nat.le_of_ble_eq_true rfl) (fun q14 => ?_)
  try dsimp only [List.append, List.cons_append, List.nil_append, List.append_assoc]
  refine J.dup g dX10_init_104 rfl ?_
  refine J.callIN g (c_X1_init l γ _) jy_X1_init jnl_X10_56 rfl ⟨⟨Nat.le_of_ble_eq_true rfl, Nat.le_of_ble_eq_true rfl⟩, Nat.le_of_ble_eq_true rfl, Nat.le_of_ble_eq_true rfl⟩ (Nat.le_of_ble_eq_true rfl) rfl [34] rfl (fun _ => rfl) rfl dX10_init_105 ?_
  intro v15 _
  dsimp only [jput, List.set_cons_zero, List.set_cons_succ, Option.toList, List.append, List.cons_append, List.nil_append, List.append_nil, List.append_assoc]
  refine J.qast g 33 6 34 1 0 rfl rfl rfl rfl (by decide) (by decide) dX10_init_108 ?_
  try dsimp only [List.set_cons_zero, List.set_cons_succ]
  refine J.iincN g 1 dX10_init_109 rfl rfl ?_
  try dsimp only [List.set_cons_zero, List.set_cons_succ]
  refine J.goto g dX10_init_112 (tgt := 91) (by decide) ?_
  refine J.iload_n g dX10_init_91 rfl rfl ?_
  refine J.iconstN g 2 dX10_init_92 ?_
  refine J.icmp_geN g dX10_init_93 (tgt := 115) (by decide) (by omega) (by omega) (fun c_93 => absurd c_93 (by omega)) (fun c_93 => ?_)
  refine J.aload_n g dX10_init_96 rfl rfl ?_
  refine J.get g jX10 7 (by decide) lf_X10_52 0 rfl rfl dX10_init_97 ?_
  refine J.iload_n g dX10_init_100 rfl rfl ?_
  refine J.new g tyX1 dX10_init_101 jX1.1 jX1.2.1 jX1.2.2.1 jcl_X10_50 jis_X1 jit_X1 (fs := [.null, .int (nI 0), .int (jB false)]) (fun j hj => by rcases (show j = 0 ∨ j = 1 ∨ j = 2 by omega) with rfl | rfl | rfl <;> rfl) (Nat.le_of_ble_eq_true rfl) (Nat.le_of_ble_eq_true rfl) (fun q16 => ?_)
  try dsimp only [List.append, List.cons_append, List.nil_append, List.append_assoc]
  refine J.dup g dX10_init_104 rfl ?_
  refine J.callIN g (c_X1_init l γ _) jy_X1_init jnl_X10_56 rfl ⟨⟨Nat.le_of_ble_eq_true rfl, Nat.le_of_ble_eq_true rfl⟩, Nat.le_of_ble_eq_true rfl, Nat.le_of_ble_eq_true rfl⟩ (Nat.le_of_ble_eq_true rfl) rfl [37] rfl (fun _ => rfl) rfl dX10_init_105 ?_
  intro v17 _
  dsimp only [jput, List.set_cons_zero, List.set_cons_succ, Option.toList, List.append, List.cons_append, List.nil_append, List.append_nil, List.append_assoc]
  refine J.qast g 33 6 37 1 1 rfl rfl rfl rfl (by decide) (by decide) dX10_init_108 ?_
  try dsimp only [List.set_cons_zero, List.set_cons_succ]
  refine J.iincN g 1 dX10_init_109 rfl rfl ?_
  try dsimp only [List.set_cons_zero, List.set_cons_succ]
  refine J.goto g dX10_init_112 (tgt := 91) (by decide) ?_
  refine J.iload_n g dX10_init_91 rfl rfl ?_
  refine J.iconstN g 2 dX10_init_92 ?_
  refine J.icmp_geN g dX10_init_93 (tgt := 115) (by decide) (by omega) (by omega) (fun c_93 => ?_) (fun c_93 => absurd c_93 (by omega))
  refine J.aload_n g dX10_init_115 rfl rfl ?_
  refine J.new g tyX8 dX10_init_116 jX8.1 jX8.2.1 jX8.2.2.1 jcl_X10_57 jis_X8 jit_X8 (fs := [.null, .null, .int (nI 0)]) (fun j hj => by rcases (show j = 0 ∨ j = 1 ∨ j = 2 by omega) with rfl | rfl | rfl <;> rfl) (Nat.le_of_ble_eq_true rfl) (Nat.le_of_ble_eq_true rfl) (fun q18 => ?_)
  try dsimp only [List.append, List.cons_append, List.nil_append, List.append_assoc]
  refine J.dup g dX10_init_119 rfl ?_
  refine J.callIN g (c_X8_init l γ _) jy_X8_init jnl_X10_59 rfl ⟨⟨Nat.le_of_ble_eq_true rfl, Nat.le_of_ble_eq_true rfl⟩, Nat.le_of_ble_eq_true rfl, Nat.le_of_ble_eq_true rfl⟩ (Nat.le_of_ble_eq_true rfl) rfl [40] rfl (fun _ => rfl) rfl dX10_init_120 ?_
  intro v19 _
  dsimp only [jput, List.set_cons_zero, List.set_cons_succ, Option.toList, List.append, List.cons_append, List.nil_append, List.append_nil, List.append_assoc]
  refine J.putF g jX10 8 (by decide) lf_X10_60 0 rfl rfl hin rfl (Nat.le_of_ble_eq_true rfl) rfl rfl dX10_init_123 ?_
  try dsimp only [List.set_cons_zero, List.set_cons_succ]
  refine J.aload_n g dX10_init_126 rfl rfl ?_
  refine J.new g tyX7 dX10_init_127 jX7.1 jX7.2.1 jX7.2.2.1 jcl_X10_64 jis_X7 jit_X7 (fs := [.null, .null, .null, .null]) (fun j hj => by rcases (show j = 0 ∨ j = 1 ∨ j = 2 ∨ j = 3 by omega) with rfl | rfl | rfl | rfl <;> rfl) (Nat.le_of_ble_eq_true rfl) (Nat.le_of_ble_eq_true rfl) (fun q20 => ?_)
  try dsimp only [List.append, List.cons_append, List.nil_append, List.append_assoc]
  refine J.dup g dX10_init_130 rfl ?_
  refine J.callIN g (c_X7_init l γ _) jy_X7_init jnl_X10_66 rfl ⟨⟨Nat.le_of_ble_eq_true rfl, Nat.le_of_ble_eq_true rfl⟩, Nat.le_of_ble_eq_true rfl, Nat.le_of_ble_eq_true rfl⟩ (Nat.le_of_ble_eq_true rfl) rfl [69] rfl (fun _ => rfl) rfl dX10_init_131 ?_
  intro v21 _
  dsimp only [jput, List.set_cons_zero, List.set_cons_succ, Option.toList, List.append, List.cons_append, List.nil_append, List.append_nil, List.append_assoc]
  refine J.putF g jX10 9 (by decide) lf_X10_67 0 rfl rfl hin rfl (Nat.le_of_ble_eq_true rfl) rfl rfl dX10_init_134 ?_
  try dsimp only [List.set_cons_zero, List.set_cons_succ]
  refine J.aload_n g dX10_init_137 rfl rfl ?_
  refine J.new g tyX3 dX10_init_138 jX3.1 jX3.2.1 jX3.2.2.1 jcl_X10_71 jis_X3 jit_X3 (fs := [.null, .null, .null, .null, .int (nI 0), .int (nI 0)]) (fun j hj => by rcases (show j = 0 ∨ j = 1 ∨ j = 2 ∨ j = 3 ∨ j = 4 ∨ j = 5 by omega) with rfl | rfl | rfl | rfl | rfl | rfl <;> rfl) (Nat.le_of_ble_eq_true rfl) (Nat.le_of_ble_eq_true rfl) (fun q22 => ?_)
  try dsimp only [List.append, List.cons_append, List.nil_append, List.append_assoc]
  refine J.dup g dX10_init_141 rfl ?_
  refine J.callIN g (c_X3_init l γ _) jy_X3_init jnl_X10_73 rfl ⟨⟨Nat.le_of_ble_eq_true rfl, Nat.le_of_ble_eq_true rfl⟩, Nat.le_of_ble_eq_true rfl, Nat.le_of_ble_eq_true rfl⟩ (Nat.le_of_ble_eq_true rfl) rfl [74] rfl (fun _ => rfl) rfl dX10_init_142 ?_
  intro v23 _
  dsimp only [jput, List.set_cons_zero, List.set_cons_succ, Option.toList, List.append, List.cons_append, List.nil_append, List.append_nil, List.append_assoc]
  refine J.putF g jX10 10 (by decide) lf_X10_74 0 rfl rfl hin rfl (Nat.le_of_ble_eq_true rfl) rfl rfl dX10_init_145 ?_
  try dsimp only [List.set_cons_zero, List.set_cons_succ]
  refine J.aload_n g dX10_init_148 rfl rfl ?_
  refine J.new g tyX2 dX10_init_149 jX2.1 jX2.2.1 jX2.2.2.1 jcl_X10_78 jis_X2 jit_X2 (fs := [.null, .null, .null, .int (nI 0)]) (fun j hj => by rcases (show j = 0 ∨ j = 1 ∨ j = 2 ∨ j = 3 by omega) with rfl | rfl | rfl | rfl <;> rfl) (Nat.le_of_ble_eq_true rfl) (Nat.le_of_ble_eq_true rfl) (fun q24 => ?_)
  try dsimp only [List.append, List.cons_append, List.nil_append, List.append_assoc]
  refine J.dup g dX10_init_152 rfl ?_
  refine J.callIN g (c_X2_init l γ _) jy_X2_init jnl_X10_80 rfl ⟨⟨Nat.le_of_ble_eq_true rfl, Nat.le_of_ble_eq_true rfl⟩, Nat.le_of_ble_eq_true rfl, Nat.le_of_ble_eq_true rfl⟩ (Nat.le_of_ble_eq_true rfl) rfl [80] rfl (fun _ => rfl) rfl dX10_init_153 ?_
  intro v25 _
  dsimp only [jput, List.set_cons_zero, List.set_cons_succ, Option.toList, List.append, List.cons_append, List.nil_append, List.append_nil, List.append_assoc]
  refine J.putF g jX10 11 (by decide) lf_X10_81 0 rfl rfl hin rfl (Nat.le_of_ble_eq_true rfl) rfl rfl dX10_init_156 ?_
  try dsimp only [List.set_cons_zero, List.set_cons_succ]
  refine J.aload_n g dX10_init_159 rfl rfl ?_
  refine J.iconstN g 0 dX10_init_160 ?_
  refine J.put g jX10 12 (by decide) lf_X10_85 0 rfl rfl (Nat.le_of_ble_eq_true rfl) rfl rfl dX10_init_161 ?_
  try dsimp only [List.set_cons_zero, List.set_cons_succ]
  refine J.qcong (f' := fun i => some ((fun i => [ns, q1, (v2 0), (v2 1), (v2 2), (v2 3), q3, (v4 0), (v4 1), q5, v6, q7, v8, q9, v10, q11, (v12 0), (v12 1), (v12 2), (v12 3), (v12 4), (v12 5), (v12 6), (v12 7), (v12 8), (v12 9), (v12 10), (v12 11), (v12 12), (v12 13), (v12 14), (v12 15), (v12 16), q13, q14, (v15 0), (v15 1), q16, (v17 0), (v17 1), q18, (v19 0), (v19 1), (v19 2), (v19 3), (v19 4), (v19 5), (v19 6), (v19 7), (v19 8), (v19 9), (v19 10), (v19 11), (v19 12), (v19 13), (v19 14), (v19 15), (v19 16), (v19 17), (v19 18), (v19 19), (v19 20), (v19 21), (v19 22), (v19 23), (v19 24), (v19 25), (v19 26), (v19 27), q20, (v21 0), (v21 1), (v21 2), (v21 3), q22, (v23 0), (v23 1), (v23 2), (v23 3), (v23 4), q24, (v25 0), (v25 1), (v25 2), (v25 3), (v25 4)].getD i 0) (17 + 2 * i))) 16 rfl (fun i hi => by rcases (show i = 0 ∨ i = 1 ∨ i = 2 ∨ i = 3 ∨ i = 4 ∨ i = 5 ∨ i = 6 ∨ i = 7 by omega) with rfl | rfl | rfl | rfl | rfl | rfl | rfl | rfl <;> rfl) ?_
  refine J.qcong (f' := fun i => some ((fun i => [ns, q1, (v2 0), (v2 1), (v2 2), (v2 3), q3, (v4 0), (v4 1), q5, v6, q7, v8, q9, v10, q11, (v12 0), (v12 1), (v12 2), (v12 3), (v12 4), (v12 5), (v12 6), (v12 7), (v12 8), (v12 9), (v12 10), (v12 11), (v12 12), (v12 13), (v12 14), (v12 15), (v12 16), q13, q14, (v15 0), (v15 1), q16, (v17 0), (v17 1), q18, (v19 0), (v19 1), (v19 2), (v19 3), (v19 4), (v19 5), (v19 6), (v19 7), (v19 8), (v19 9), (v19 10), (v19 11), (v19 12), (v19 13), (v19 14), (v19 15), (v19 16), (v19 17), (v19 18), (v19 19), (v19 20), (v19 21), (v19 22), (v19 23), (v19 24), (v19 25), (v19 26), (v19 27), q20, (v21 0), (v21 1), (v21 2), (v21 3), q22, (v23 0), (v23 1), (v23 2), (v23 3), (v23 4), q24, (v25 0), (v25 1), (v25 2), (v25 3), (v25 4)].getD i 0) (34 + 3 * i))) 33 rfl (fun i hi => by rcases (show i = 0 ∨ i = 1 by omega) with rfl | rfl <;> rfl) ?_
  refine J.qcong (f' := fun i => some ((fun i => [ns, q1, (v2 0), (v2 1), (v2 2), (v2 3), q3, (v4 0), (v4 1), q5, v6, q7, v8, q9, v10, q11, (v12 0), (v12 1), (v12 2), (v12 3), (v12 4), (v12 5), (v12 6), (v12 7), (v12 8), (v12 9), (v12 10), (v12 11), (v12 12), (v12 13), (v12 14), (v12 15), (v12 16), q13, q14, (v15 0), (v15 1), q16, (v17 0), (v17 1), q18, (v19 0), (v19 1), (v19 2), (v19 3), (v19 4), (v19 5), (v19 6), (v19 7), (v19 8), (v19 9), (v19 10), (v19 11), (v19 12), (v19 13), (v19 14), (v19 15), (v19 16), (v19 17), (v19 18), (v19 19), (v19 20), (v19 21), (v19 22), (v19 23), (v19 24), (v19 25), (v19 26), (v19 27), q20, (v21 0), (v21 1), (v21 2), (v21 3), q22, (v23 0), (v23 1), (v23 2), (v23 3), (v23 4), q24, (v25 0), (v25 1), (v25 2), (v25 3), (v25 4)].getD i 0) (42 + i))) 41 rfl (fun i hi => by rcases (show i = 0 ∨ i = 1 ∨ i = 2 ∨ i = 3 ∨ i = 4 ∨ i = 5 ∨ i = 6 ∨ i = 7 ∨ i = 8 ∨ i = 9 ∨ i = 10 ∨ i = 11 ∨ i = 12 by omega) with rfl | rfl | rfl | rfl | rfl | rfl | rfl | rfl | rfl | rfl | rfl | rfl | rfl <;> rfl) ?_
  refine J.qcong (f' := fun i => some ((fun i => [ns, q1, (v2 0), (v2 1), (v2 2), (v2 3), q3, (v4 0), (v4 1), q5, v6, q7, v8, q9, v10, q11, (v12 0), (v12 1), (v12 2), (v12 3), (v12 4), (v12 5), (v12 6), (v12 7), (v12 8), (v12 9), (v12 10), (v12 11), (v12 12), (v12 13), (v12 14), (v12 15), (v12 16), q13, q14, (v15 0), (v15 1), q16, (v17 0), (v17 1), q18, (v19 0), (v19 1), (v19 2), (v19 3), (v19 4), (v19 5), (v19 6), (v19 7), (v19 8), (v19 9), (v19 10), (v19 11), (v19 12), (v19 13), (v19 14), (v19 15), (v19 16), (v19 17), (v19 18), (v19 19), (v19 20), (v19 21), (v19 22), (v19 23), (v19 24), (v19 25), (v19 26), (v19 27), q20, (v21 0), (v21 1), (v21 2), (v21 3), q22, (v23 0), (v23 1), (v23 2), (v23 3), (v23 4), q24, (v25 0), (v25 1), (v25 2), (v25 3), (v25 4)].getD i 0) (56 + i))) 55 rfl (fun i hi => by rcases (show i = 0 ∨ i = 1 ∨ i = 2 ∨ i = 3 ∨ i = 4 ∨ i = 5 ∨ i = 6 ∨ i = 7 ∨ i = 8 ∨ i = 9 ∨ i = 10 ∨ i = 11 ∨ i = 12 by omega) with rfl | rfl | rfl | rfl | rfl | rfl | rfl | rfl | rfl | rfl | rfl | rfl | rfl <;> rfl) ?_
  exact J.vret g hE (fun i => [ns, q1, (v2 0), (v2 1), (v2 2), (v2 3), q3, (v4 0), (v4 1), q5, v6, q7, v8, q9, v10, q11, (v12 0), (v12 1), (v12 2), (v12 3), (v12 4), (v12 5), (v12 6), (v12 7), (v12 8), (v12 9), (v12 10), (v12 11), (v12 12), (v12 13), (v12 14), (v12 15), (v12 16), q13, q14, (v15 0), (v15 1), q16, (v17 0), (v17 1), q18, (v19 0), (v19 1), (v19 2), (v19 3), (v19 4), (v19 5), (v19 6), (v19 7), (v19 8), (v19 9), (v19 10), (v19 11), (v19 12), (v19 13), (v19 14), (v19 15), (v19 16), (v19 17), (v19 18), (v19 19), (v19 20), (v19 21), (v19 22), (v19 23), (v19 24), (v19 25), (v19 26), (v19 27), q20, (v21 0), (v21 1), (v21 2), (v21 3), q22, (v23 0), (v23 1), (v23 2), (v23 3), (v23 4), q24, (v25 0), (v25 1), (v25 2), (v25 3), (v25 4)].getD i 0) rfl rfl rfl ⟨Nat.le_of_ble_eq_true rfl, Nat.le_of_ble_eq_true rfl⟩ dX10_init_164
set_option maxHeartbeats 4000000 in
set_option maxRecDepth 100000 in
theorem c_X11_init (l : Launch) (γ : jγ) (mo : Nat)  : jM (S := Nat → Nat) l γ yX11_init cX11_init 1 none ({ frames := 1, cells := 20, slots := 18189, locals := 20 } : Room) [.ref mo] [(mo, .inr (11, [.int (nI 0), .null, .int (nI 0), .int (nI 0), .int (nI 0), .int (nI 0), .int (nI 0), .int (nI 0), .int (nI 0), .int (nI 0), .int (nI 0), .int (nI 0), .long 0, .null, .null, .null, .null, .null, .null, .null, .int (nI 0), .null, .null, .null, .null, .null, .null, .null, .null, .null, .null, .null, .int (nI 0), .null, .int (nI 0)]))] (fun u => none) (fun u => [(mo, .inr (11, [.int 0, .ref (u 1), .int (nI 0), .int (nI 0), .int (nI 0), .int (nI 0), .int (nI 0), .int (nI 0), .int (nI 0), .int (-1), .int (nI 0), .int (nI 0), .long 0, .ref (u 2), .ref (u 3), .ref (u 4), .ref (u 5), .ref (u 6), .ref (u 7), .ref (u 8), .int (nI 0), .ref (u 9), .ref (u 10), .ref (u 11), .ref (u 12), .ref (u 13), .ref (u 14), .ref (u 15), .ref (u 16), .ref (u 17), .ref (u 18), .ref (u 19), .int (nI 0), .ref (u 20), .int 0])), ((u 1), .inl (γ.2 0, 340, .inl (fun j => nI ((fun _ => 0) j)))), ((u 2), .inl (γ.2 0, 17, .inl (fun j => nI ((fun _ => 0) j)))), ((u 3), .inl (γ.2 0, 17, .inl (fun j => nI ((fun _ => 0) j)))), ((u 4), .inl (γ.2 0, 34, .inl (fun j => nI ((fun _ => 0) j)))), ((u 5), .inl (γ.2 0, 136, .inl (fun j => nI ((fun _ => 0) j)))), ((u 6), .inl (γ.2 0, 17, .inl (fun j => nI ((fun _ => 0) j)))), ((u 7), .inl (γ.2 0, 17, .inl (fun j => nI ((fun _ => 0) j)))), ((u 8), .inl (γ.2 2, 2, .inl (fun j => jB ((fun _ => false) j)))), ((u 9), .inl (γ.2 0, 4096, .inl (fun j => nI ((fun _ => 0) j)))), ((u 10), .inl (γ.2 2, 4096, .inl (fun j => jB ((fun _ => false) j)))), ((u 11), .inl (γ.2 0, 4096, .inl (fun _ => 0))), ((u 12), .inl (γ.2 0, 4096, .inl (fun _ => 0))), ((u 13), .inl (γ.2 0, 325, .inl (fun j => nI ((fun _ => 0) j)))), ((u 14), .inl (γ.2 2, 325, .inl (fun j => jB ((fun _ => false) j)))), ((u 15), .inl (γ.2 0, 12, .inl (fun j => nI ((fun _ => 0) j)))), ((u 16), .inl (γ.2 0, 12, .inl (fun j => nI ((fun _ => 0) j)))), ((u 17), .inl (γ.2 0, 13, .inl (fun j => nI ((fun _ => 0) j)))), ((u 18), .inl (γ.2 0, 13, .inl (fun j => nI ((fun _ => 0) j)))), ((u 19), .inl (γ.2 0, 13, .inl (fun j => nI ((fun _ => 0) j)))), ((u 20), .inl (γ.2 0, 512, .inl (fun j => nI ((fun _ => 0) j))))]) (fun u => u 0 = mo) := by
  refine jM.of [some (.ref mo)] rfl (Nat.le_of_ble_eq_true rfl) (by decide) ?_
  intro x g hE hin
  refine J.aload_n g dX11_init_0 rfl rfl ?_
  refine J.objInit g dX11_init_1 loi_X11 joi_i joi_c (Nat.le_of_ble_eq_true rfl) ⟨Nat.le_of_ble_eq_true rfl, Nat.le_of_ble_eq_true rfl⟩ ?_
  refine J.aload_n g dX11_init_4 rfl rfl ?_
  refine J.sipush (v := nI 340) g dX11_init_5 (by decide +kernel) ?_
  refine J.newa g (N := 340) (i := 0) (ty := .int) (a0 := (340, .inl (fun j => nI ((fun _ => 0) j)))) dX11_init_8 jac_I rfl rfl (fun _ => rfl) (nI_pos (by decide)) (nI_clamp (by decide)) (Nat.le_of_ble_eq_true rfl) (Nat.le_of_ble_eq_true rfl) (Nat.le_of_ble_eq_true rfl) (fun q1 => ?_)
  try dsimp only [List.append, List.cons_append, List.nil_append, List.append_assoc]
  refine J.putF g jX11 1 (by decide) lf_X11_11 0 rfl rfl hin rfl (Nat.le_of_ble_eq_true rfl) rfl rfl dX11_init_10 ?_
  try dsimp only [List.set_cons_zero, List.set_cons_succ]
  refine J.aload_n g dX11_init_13 rfl rfl ?_
  refine J.iconst (v := -1) g dX11_init_14 (by decide) ?_
  refine J.put g jX11 9 (by decide) lf_X11_73 0 rfl rfl (Nat.le_of_ble_eq_true rfl) rfl rfl dX11_init_15 ?_
  try dsimp only [List.set_cons_zero, List.set_cons_succ]
  refine J.aload_n g dX11_init_18 rfl rfl ?_
  refine J.bipush (v := nI 17) g dX11_init_19 (by decide +kernel) ?_
  refine J.newa g (N := 17) (i := 0) (ty := .int) (a0 := (17, .inl (fun j => nI ((fun _ => 0) j)))) dX11_init_21 jac_I rfl rfl (fun _ => rfl) (nI_pos (by decide)) (nI_clamp (by decide)) (Nat.le_of_ble_eq_true rfl) (Nat.le_of_ble_eq_true rfl) (Nat.le_of_ble_eq_true rfl) (fun q2 => ?_)
  try dsimp only [List.append, List.cons_append, List.nil_append, List.append_assoc]
  refine J.putF g jX11 13 (by decide) lf_X11_85 0 rfl rfl hin rfl (Nat.le_of_ble_eq_true rfl) rfl rfl dX11_init_23 ?_
  try dsimp only [List.set_cons_zero, List.set_cons_succ]
  refine J.aload_n g dX11_init_26 rfl rfl ?_
  refine J.bipush (v := nI 17) g dX11_init_27 (by decide +kernel) ?_
  refine J.newa g (N := 17) (i := 0) (ty := .int) (a0 := (17, .inl (fun j => nI ((fun _ => 0) j)))) dX11_init_29 jac_I rfl rfl (fun _ => rfl) (nI_pos (by decide)) (nI_clamp (by decide)) (Nat.le_of_ble_eq_true rfl) (Nat.le_of_ble_eq_true rfl) (Nat.le_of_ble_eq_true rfl) (fun q3 => ?_)
  try dsimp only [List.append, List.cons_append, List.nil_append, List.append_assoc]
  refine J.putF g jX11 14 (by decide) lf_X11_88 0 rfl rfl hin rfl (Nat.le_of_ble_eq_true rfl) rfl rfl dX11_init_31 ?_
  try dsimp only [List.set_cons_zero, List.set_cons_succ]
  refine J.aload_n g dX11_init_34 rfl rfl ?_
  refine J.bipush (v := nI 34) g dX11_init_35 (by decide +kernel) ?_
  refine J.newa g (N := 34) (i := 0) (ty := .int) (a0 := (34, .inl (fun j => nI ((fun _ => 0) j)))) dX11_init_37 jac_I rfl rfl (fun _ => rfl) (nI_pos (by decide)) (nI_clamp (by decide)) (Nat.le_of_ble_eq_true rfl) (Nat.le_of_ble_eq_true rfl) (Nat.le_of_ble_eq_true rfl) (fun q4 => ?_)
  try dsimp only [List.append, List.cons_append, List.nil_append, List.append_assoc]
  refine J.putF g jX11 15 (by decide) lf_X11_91 0 rfl rfl hin rfl (Nat.le_of_ble_eq_true rfl) rfl rfl dX11_init_39 ?_
  try dsimp only [List.set_cons_zero, List.set_cons_succ]
  refine J.aload_n g dX11_init_42 rfl rfl ?_
  refine J.sipush (v := nI 136) g dX11_init_43 (by decide +kernel) ?_
  refine J.newa g (N := 136) (i := 0) (ty := .int) (a0 := (136, .inl (fun j => nI ((fun _ => 0) j)))) dX11_init_46 jac_I rfl rfl (fun _ => rfl) (nI_pos (by decide)) (nI_clamp (by decide)) (Nat.le_of_ble_eq_true rfl) (Nat.le_of_ble_eq_true rfl) (Nat.le_of_ble_eq_true rfl) (fun q5 => ?_)
  try dsimp only [List.append, List.cons_append, List.nil_append, List.append_assoc]
  refine J.putF g jX11 16 (by decide) lf_X11_94 0 rfl rfl hin rfl (Nat.le_of_ble_eq_true rfl) rfl rfl dX11_init_48 ?_
  try dsimp only [List.set_cons_zero, List.set_cons_succ]
  refine J.aload_n g dX11_init_51 rfl rfl ?_
  refine J.bipush (v := nI 17) g dX11_init_52 (by decide +kernel) ?_
  refine J.newa g (N := 17) (i := 0) (ty := .int) (a0 := (17, .inl (fun j => nI ((fun _ => 0) j)))) dX11_init_54 jac_I rfl rfl (fun _ => rfl) (nI_pos (by decide)) (nI_clamp (by decide)) (Nat.le_of_ble_eq_true rfl) (Nat.le_of_ble_eq_true rfl) (Nat.le_of_ble_eq_true rfl) (fun q6 => ?_)
  try dsimp only [List.append, List.cons_append, List.nil_append, List.append_assoc]
  refine J.putF g jX11 17 (by decide) lf_X11_97 0 rfl rfl hin rfl (Nat.le_of_ble_eq_true rfl) rfl rfl dX11_init_56 ?_
  try dsimp only [List.set_cons_zero, List.set_cons_succ]
  refine J.aload_n g dX11_init_59 rfl rfl ?_
  refine J.bipush (v := nI 17) g dX11_init_60 (by decide +kernel) ?_
  refine J.newa g (N := 17) (i := 0) (ty := .int) (a0 := (17, .inl (fun j => nI ((fun _ => 0) j)))) dX11_init_62 jac_I rfl rfl (fun _ => rfl) (nI_pos (by decide)) (nI_clamp (by decide)) (Nat.le_of_ble_eq_true rfl) (Nat.le_of_ble_eq_true rfl) (Nat.le_of_ble_eq_true rfl) (fun q7 => ?_)
  try dsimp only [List.append, List.cons_append, List.nil_append, List.append_assoc]
  refine J.putF g jX11 18 (by decide) lf_X11_100 0 rfl rfl hin rfl (Nat.le_of_ble_eq_true rfl) rfl rfl dX11_init_64 ?_
  try dsimp only [List.set_cons_zero, List.set_cons_succ]
  refine J.aload_n g dX11_init_67 rfl rfl ?_
  refine J.iconstN g 2 dX11_init_68 ?_
  refine J.newa g (N := 2) (i := 2) (ty := .boolean) (a0 := (2, .inl (fun j => jB ((fun _ => false) j)))) dX11_init_69 jac_Z rfl rfl (fun _ => rfl) (nI_pos (by decide)) (nI_clamp (by decide)) (Nat.le_of_ble_eq_true rfl) (Nat.le_of_ble_eq_true rfl) (Nat.le_of_ble_eq_true rfl) (fun q8 => ?_)
  try dsimp only [List.append, List.cons_append, List.nil_append, List.append_assoc]
  refine J.putF g jX11 19 (by decide) lf_X11_103 0 rfl rfl hin rfl (Nat.le_of_ble_eq_true rfl) rfl rfl dX11_init_71 ?_
  try dsimp only [List.set_cons_zero, List.set_cons_succ]
  refine J.aload_n g dX11_init_74 rfl rfl ?_
  refine J.sipush (v := nI 4096) g dX11_init_75 (by decide +kernel) ?_
  refine J.newa g (N := 4096) (i := 0) (ty := .int) (a0 := (4096, .inl (fun j => nI ((fun _ => 0) j)))) dX11_init_78 jac_I rfl rfl (fun _ => rfl) (nI_pos (by decide)) (nI_clamp (by decide)) (Nat.le_of_ble_eq_true rfl) (Nat.le_of_ble_eq_true rfl) (Nat.le_of_ble_eq_true rfl) (fun q9 => ?_)
  try dsimp only [List.append, List.cons_append, List.nil_append, List.append_assoc]
  refine J.putF g jX11 21 (by decide) lf_X11_107 0 rfl rfl hin rfl (Nat.le_of_ble_eq_true rfl) rfl rfl dX11_init_80 ?_
  try dsimp only [List.set_cons_zero, List.set_cons_succ]
  refine J.aload_n g dX11_init_83 rfl rfl ?_
  refine J.sipush (v := nI 4096) g dX11_init_84 (by decide +kernel) ?_
  refine J.newa g (N := 4096) (i := 2) (ty := .boolean) (a0 := (4096, .inl (fun j => jB ((fun _ => false) j)))) dX11_init_87 jac_Z rfl rfl (fun _ => rfl) (nI_pos (by decide)) (nI_clamp (by decide)) (Nat.le_of_ble_eq_true rfl) (Nat.le_of_ble_eq_true rfl) (Nat.le_of_ble_eq_true rfl) (fun q10 => ?_)
  try dsimp only [List.append, List.cons_append, List.nil_append, List.append_assoc]
  refine J.putF g jX11 22 (by decide) lf_X11_110 0 rfl rfl hin rfl (Nat.le_of_ble_eq_true rfl) rfl rfl dX11_init_89 ?_
  try dsimp only [List.set_cons_zero, List.set_cons_succ]
  refine J.aload_n g dX11_init_92 rfl rfl ?_
  refine J.sipush (v := nI 4096) g dX11_init_93 (by decide +kernel) ?_
  refine J.newa g (N := 4096) (i := 0) (ty := .int) (a0 := (4096, .inl (fun _ => 0))) dX11_init_96 jac_I rfl rfl (fun _ => rfl) (nI_pos (by decide)) (nI_clamp (by decide)) (Nat.le_of_ble_eq_true rfl) (Nat.le_of_ble_eq_true rfl) (Nat.le_of_ble_eq_true rfl) (fun q11 => ?_)
  try dsimp only [List.append, List.cons_append, List.nil_append, List.append_assoc]
  refine J.putF g jX11 23 (by decide) lf_X11_113 0 rfl rfl hin rfl (Nat.le_of_ble_eq_true rfl) rfl rfl dX11_init_98 ?_
  try dsimp only [List.set_cons_zero, List.set_cons_succ]
  refine J.aload_n g dX11_init_101 rfl rfl ?_
  refine J.sipush (v := nI 4096) g dX11_init_102 (by decide +kernel) ?_
  refine J.newa g (N := 4096) (i := 0) (ty := .int) (a0 := (4096, .inl (fun _ => 0))) dX11_init_105 jac_I rfl rfl (fun _ => rfl) (nI_pos (by decide)) (nI_clamp (by decide)) (Nat.le_of_ble_eq_true rfl) (Nat.le_of_ble_eq_true rfl) (Nat.le_of_ble_eq_true rfl) (fun q12 => ?_)
  try dsimp only [List.append, List.cons_append, List.nil_append, List.append_assoc]
  refine J.putF g jX11 24 (by decide) lf_X11_116 0 rfl rfl hin rfl (Nat.le_of_ble_eq_true rfl) rfl rfl dX11_init_107 ?_
  try dsimp only [List.set_cons_zero, List.set_cons_succ]
  refine J.aload_n g dX11_init_110 rfl rfl ?_
  refine J.sipush (v := nI 325) g dX11_init_111 (by decide +kernel) ?_
  refine J.newa g (N := 325) (i := 0) (ty := .int) (a0 := (325, .inl (fun j => nI ((fun _ => 0) j)))) dX11_init_114 jac_I rfl rfl (fun _ => rfl) (nI_pos (by decide)) (nI_clamp (by decide)) (Nat.le_of_ble_eq_true rfl) (Nat.le_of_ble_eq_true rfl) (Nat.le_of_ble_eq_true rfl) (fun q13 => ?_)
  try dsimp only [List.append, List.cons_append, List.nil_append, List.append_assoc]
  refine J.putF g jX11 25 (by decide) lf_X11_119 0 rfl rfl hin rfl (Nat.le_of_ble_eq_true rfl) rfl rfl dX11_init_116 ?_
  try dsimp only [List.set_cons_zero, List.set_cons_succ]
  refine J.aload_n g dX11_init_119 rfl rfl ?_
  refine J.sipush (v := nI 325) g dX11_init_120 (by decide +kernel) ?_
  refine J.newa g (N := 325) (i := 2) (ty := .boolean) (a0 := (325, .inl (fun j => jB ((fun _ => false) j)))) dX11_init_123 jac_Z rfl rfl (fun _ => rfl) (nI_pos (by decide)) (nI_clamp (by decide)) (Nat.le_of_ble_eq_true rfl) (Nat.le_of_ble_eq_true rfl) (Nat.le_of_ble_eq_true rfl) (fun q14 => ?_)
  try dsimp only [List.append, List.cons_append, List.nil_append, List.append_assoc]
  refine J.putF g jX11 26 (by decide) lf_X11_122 0 rfl rfl hin rfl (Nat.le_of_ble_eq_true rfl) rfl rfl dX11_init_125 ?_
  try dsimp only [List.set_cons_zero, List.set_cons_succ]
  refine J.aload_n g dX11_init_128 rfl rfl ?_
  refine J.bipush (v := nI 12) g dX11_init_129 (by decide +kernel) ?_
  refine J.newa g (N := 12) (i := 0) (ty := .int) (a0 := (12, .inl (fun j => nI ((fun _ => 0) j)))) dX11_init_131 jac_I rfl rfl (fun _ => rfl) (nI_pos (by decide)) (nI_clamp (by decide)) (Nat.le_of_ble_eq_true rfl) (Nat.le_of_ble_eq_true rfl) (Nat.le_of_ble_eq_true rfl) (fun q15 => ?_)
  try dsimp only [List.append, List.cons_append, List.nil_append, List.append_assoc]
  refine J.putF g jX11 27 (by decide) lf_X11_125 0 rfl rfl hin rfl (Nat.le_of_ble_eq_true rfl) rfl rfl dX11_init_133 ?_
  try dsimp only [List.set_cons_zero, List.set_cons_succ]
  refine J.aload_n g dX11_init_136 rfl rfl ?_
  refine J.bipush (v := nI 12) g dX11_init_137 (by decide +kernel) ?_
  refine J.newa g (N := 12) (i := 0) (ty := .int) (a0 := (12, .inl (fun j => nI ((fun _ => 0) j)))) dX11_init_139 jac_I rfl rfl (fun _ => rfl) (nI_pos (by decide)) (nI_clamp (by decide)) (Nat.le_of_ble_eq_true rfl) (Nat.le_of_ble_eq_true rfl) (Nat.le_of_ble_eq_true rfl) (fun q16 => ?_)
  try dsimp only [List.append, List.cons_append, List.nil_append, List.append_assoc]
  refine J.putF g jX11 28 (by decide) lf_X11_128 0 rfl rfl hin rfl (Nat.le_of_ble_eq_true rfl) rfl rfl dX11_init_141 ?_
  try dsimp only [List.set_cons_zero, List.set_cons_succ]
  refine J.aload_n g dX11_init_144 rfl rfl ?_
  refine J.bipush (v := nI 13) g dX11_init_145 (by decide +kernel) ?_
  refine J.newa g (N := 13) (i := 0) (ty := .int) (a0 := (13, .inl (fun j => nI ((fun _ => 0) j)))) dX11_init_147 jac_I rfl rfl (fun _ => rfl) (nI_pos (by decide)) (nI_clamp (by decide)) (Nat.le_of_ble_eq_true rfl) (Nat.le_of_ble_eq_true rfl) (Nat.le_of_ble_eq_true rfl) (fun q17 => ?_)
  try dsimp only [List.append, List.cons_append, List.nil_append, List.append_assoc]
  refine J.putF g jX11 29 (by decide) lf_X11_131 0 rfl rfl hin rfl (Nat.le_of_ble_eq_true rfl) rfl rfl dX11_init_149 ?_
  try dsimp only [List.set_cons_zero, List.set_cons_succ]
  refine J.aload_n g dX11_init_152 rfl rfl ?_
  refine J.bipush (v := nI 13) g dX11_init_153 (by decide +kernel) ?_
  refine J.newa g (N := 13) (i := 0) (ty := .int) (a0 := (13, .inl (fun j => nI ((fun _ => 0) j)))) dX11_init_155 jac_I rfl rfl (fun _ => rfl) (nI_pos (by decide)) (nI_clamp (by decide)) (Nat.le_of_ble_eq_true rfl) (Nat.le_of_ble_eq_true rfl) (Nat.le_of_ble_eq_true rfl) (fun q18 => ?_)
  try dsimp only [List.append, List.cons_append, List.nil_append, List.append_assoc]
  refine J.putF g jX11 30 (by decide) lf_X11_134 0 rfl rfl hin rfl (Nat.le_of_ble_eq_true rfl) rfl rfl dX11_init_157 ?_
  try dsimp only [List.set_cons_zero, List.set_cons_succ]
  refine J.aload_n g dX11_init_160 rfl rfl ?_
  refine J.bipush (v := nI 13) g dX11_init_161 (by decide +kernel) ?_
  refine J.newa g (N := 13) (i := 0) (ty := .int) (a0 := (13, .inl (fun j => nI ((fun _ => 0) j)))) dX11_init_163 jac_I rfl rfl (fun _ => rfl) (nI_pos (by decide)) (nI_clamp (by decide)) (Nat.le_of_ble_eq_true rfl) (Nat.le_of_ble_eq_true rfl) (Nat.le_of_ble_eq_true rfl) (fun q19 => ?_)
  try dsimp only [List.append, List.cons_append, List.nil_append, List.append_assoc]
  refine J.putF g jX11 31 (by decide) lf_X11_137 0 rfl rfl hin rfl (Nat.le_of_ble_eq_true rfl) rfl rfl dX11_init_165 ?_
  try dsimp only [List.set_cons_zero, List.set_cons_succ]
  refine J.aload_n g dX11_init_168 rfl rfl ?_
  refine J.sipush (v := nI 512) g dX11_init_169 (by decide +kernel) ?_
  refine J.newa g (N := 512) (i := 0) (ty := .int) (a0 := (512, .inl (fun j => nI ((fun _ => 0) j)))) dX11_init_172 jac_I rfl rfl (fun _ => rfl) (nI_pos (by decide)) (nI_clamp (by decide)) (Nat.le_of_ble_eq_true rfl) (Nat.le_of_ble_eq_true rfl) (Nat.le_of_ble_eq_true rfl) (fun q20 => ?_)
  try dsimp only [List.append, List.cons_append, List.nil_append, List.append_assoc]
  refine J.putF g jX11 33 (by decide) lf_X11_140 0 rfl rfl hin rfl (Nat.le_of_ble_eq_true rfl) rfl rfl dX11_init_174 ?_
  try dsimp only [List.set_cons_zero, List.set_cons_succ]
  exact J.vret g hE (fun i => [mo, q1, q2, q3, q4, q5, q6, q7, q8, q9, q10, q11, q12, q13, q14, q15, q16, q17, q18, q19, q20].getD i 0) rfl rfl rfl ⟨Nat.le_of_ble_eq_true rfl, Nat.le_of_ble_eq_true rfl⟩ dX11_init_177
