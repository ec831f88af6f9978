theorem jnl_X10_11 : (RX10, 11, yX5_init, RX10) ∈ jNL := List.mem_of_getElem? (i := 0) rfl
theorem jnl_X5_11 : (RX5, 11, yX9_init, RX10) ∈ jNL := List.mem_of_getElem? (i := 1) rfl
theorem jnl_X5_48 : (RX5, 48, yX6_init, RX10) ∈ jNL := List.mem_of_getElem? (i := 2) rfl
theorem jnl_X10_25 : (RX10, 25, yX0_init, RX10) ∈ jNL := List.mem_of_getElem? (i := 3) rfl
theorem jnl_X10_32 : (RX10, 32, yX6_init, RX10) ∈ jNL := List.mem_of_getElem? (i := 4) rfl
theorem jnl_X4_24 : (RX4, 24, yX6_init, RX10) ∈ jNL := List.mem_of_getElem? (i := 5) rfl
theorem jnl_X10_56 : (RX10, 56, yX1_init, RX10) ∈ jNL := List.mem_of_getElem? (i := 6) rfl
theorem jnl_X1_9 : (RX1, 9, yX6_init, RX10) ∈ jNL := List.mem_of_getElem? (i := 7) rfl
theorem jnl_X10_59 : (RX10, 59, yX8_init, RX10) ∈ jNL := List.mem_of_getElem? (i := 8) rfl
theorem jnl_X10_66 : (RX10, 66, yX7_init, RX10) ∈ jNL := List.mem_of_getElem? (i := 9) rfl
theorem jnl_X10_73 : (RX10, 73, yX3_init, RX10) ∈ jNL := List.mem_of_getElem? (i := 10) rfl
theorem jnl_X3_23 : (RX3, 23, yX6_init, RX10) ∈ jNL := List.mem_of_getElem? (i := 11) rfl
theorem jnl_X10_80 : (RX10, 80, yX2_init, RX10) ∈ jNL := List.mem_of_getElem? (i := 12) rfl
theorem jnl_X2_17 : (RX2, 17, yX6_init, RX10) ∈ jNL := List.mem_of_getElem? (i := 13) rfl
set_option maxHeartbeats 4000000 in
set_option maxRecDepth 100000 in
theorem c_X9_init (l : Launch) (γ : jγ) (tp : Nat)  : jM (S := Nat) l γ yX9_init cX9_init 1 none ({ frames := 1, cells := 1, slots := 340, locals := 20 } : Room) [.ref tp] [(tp, .inr (9, [.null, .int (nI 0)]))] (fun u => none) (fun u => [(tp, .inr (9, [.ref u, .int (nI 0)])), (u, .inl (γ.2 1, 340, .inl (fun _ => 0)))]) (fun u => True) := by
  refine jM.of [some (.ref tp)] rfl (Nat.le_of_ble_eq_true rfl) (by decide) ?_
  intro x g hE hin
  refine J.aload_n g dX9_init_0 rfl rfl ?_
  refine J.objInit g dX9_init_1 loi_X9 joi_i joi_c (Nat.le_of_ble_eq_true rfl) ⟨Nat.le_of_ble_eq_true rfl, Nat.le_of_ble_eq_true rfl⟩ ?_
  refine J.aload_n g dX9_init_4 rfl rfl ?_
  refine J.sipush (v := nI 340) g dX9_init_5 (by decide +kernel) ?_
  refine J.newa g (N := 340) (i := 1) (ty := .byte) (a0 := (340, .inl (fun _ => 0))) dX9_init_8 jac_B rfl rfl (fun _ => rfl) (nI_pos (by decide)) (nI_clamp (by decide)) (Nat.le_of_ble_eq_true rfl) (Nat.le_of_ble_eq_true rfl) (Nat.le_of_ble_eq_true rfl) (fun q1 => ?_)
  try dsimp only [List.append, List.cons_append, List.nil_append, List.append_assoc]
  refine J.putF g jX9 0 (by decide) lf_X9_9 0 rfl rfl hin rfl (Nat.le_of_ble_eq_true rfl) rfl rfl dX9_init_10 ?_
  try dsimp only [List.set_cons_zero, List.set_cons_succ]
  refine J.aload_n g dX9_init_13 rfl rfl ?_
  refine J.iconstN g 0 dX9_init_14 ?_
  refine J.put g jX9 1 (by decide) lf_X9_15 0 rfl rfl (Nat.le_of_ble_eq_true rfl) rfl rfl dX9_init_15 ?_
  try dsimp only [List.set_cons_zero, List.set_cons_succ]
  exact J.vret g hE q1 rfl trivial rfl ⟨Nat.le_of_ble_eq_true rfl, Nat.le_of_ble_eq_true rfl⟩ dX9_init_18
set_option maxHeartbeats 4000000 in
set_option maxRecDepth 100000 in
theorem c_X6_init (l : Launch) (γ : jγ) (a : Nat)  : jM (S := Nat) l γ yX6_init cX6_init 1 none ({ frames := 1, cells := 1, slots := 12, locals := 20 } : Room) [.ref a] [(a, .inr (6, [.null, .int (nI 0)]))] (fun u => none) (fun u => [(a, .inr (6, [.ref u, .int (nI 0)])), (u, .inl (γ.2 0, 12, .inl (fun j => nI ((fun _ => 0) j))))]) (fun u => True) := by
  refine jM.of [some (.ref a)] rfl (Nat.le_of_ble_eq_true rfl) (by decide) ?_
  intro x g hE hin
  refine J.aload_n g dX6_init_0 rfl rfl ?_
  refine J.objInit g dX6_init_1 loi_X6 joi_i joi_c (Nat.le_of_ble_eq_true rfl) ⟨Nat.le_of_ble_eq_true rfl, Nat.le_of_ble_eq_true rfl⟩ ?_
  refine J.aload_n g dX6_init_4 rfl rfl ?_
  refine J.bipush (v := nI 12) g dX6_init_5 (by decide +kernel) ?_
  refine J.newa g (N := 12) (i := 0) (ty := .int) (a0 := (12, .inl (fun j => nI ((fun _ => 0) j)))) dX6_init_7 jac_I rfl rfl (fun _ => rfl) (nI_pos (by decide)) (nI_clamp (by decide)) (Nat.le_of_ble_eq_true rfl) (Nat.le_of_ble_eq_true rfl) (Nat.le_of_ble_eq_true rfl) (fun q1 => ?_)
  try dsimp only [List.append, List.cons_append, List.nil_append, List.append_assoc]
  refine J.putF g jX6 0 (by decide) lf_X6_9 0 rfl rfl hin rfl (Nat.le_of_ble_eq_true rfl) rfl rfl dX6_init_9 ?_
  try dsimp only [List.set_cons_zero, List.set_cons_succ]
  refine J.aload_n g dX6_init_12 rfl rfl ?_
  refine J.iconstN g 0 dX6_init_13 ?_
  refine J.put g jX6 1 (by decide) lf_X6_15 0 rfl rfl (Nat.le_of_ble_eq_true rfl) rfl rfl dX6_init_14 ?_
  try dsimp only [List.set_cons_zero, List.set_cons_succ]
  exact J.vret g hE q1 rfl trivial rfl ⟨Nat.le_of_ble_eq_true rfl, Nat.le_of_ble_eq_true rfl⟩ dX6_init_17
set_option maxHeartbeats 4000000 in
set_option maxRecDepth 100000 in
theorem c_X0_init (l : Launch) (γ : jγ) (gr : Nat)  : jM (S := Nat → Nat) l γ yX0_init cX0_init 1 none ({ frames := 1, cells := 2, slots := 600, locals := 20 } : Room) [.ref gr] [(gr, .inr (0, [.null, .null, .int (nI 0), .int (nI 0), .int (nI 0), .int (nI 0)]))] (fun u => none) (fun u => [(gr, .inr (0, [.ref (u 0), .ref (u 1), .int (nI 0), .int (nI 0), .int (nI 0), .int (nI 0)])), ((u 0), .inl (γ.2 1, 576, .inl (fun j => nI ((fun _ => 0) j)))), ((u 1), .inl (γ.2 1, 24, .inl (fun j => nI ((fun _ => 0) j))))]) (fun u => True) := by
  refine jM.of [some (.ref gr)] rfl (Nat.le_of_ble_eq_true rfl) (by decide) ?_
  intro x g hE hin
  refine J.aload_n g dX0_init_0 rfl rfl ?_
  refine J.objInit g dX0_init_1 loi_X0 joi_i joi_c (Nat.le_of_ble_eq_true rfl) ⟨Nat.le_of_ble_eq_true rfl, Nat.le_of_ble_eq_true rfl⟩ ?_
  refine J.aload_n g dX0_init_4 rfl rfl ?_
  refine J.sipush (v := nI 576) g dX0_init_5 (by decide +kernel) ?_
  refine J.newa g (N := 576) (i := 1) (ty := .byte) (a0 := (576, .inl (fun j => nI ((fun _ => 0) j)))) dX0_init_8 jac_B rfl rfl (fun _ => rfl) (nI_pos (by decide)) (nI_clamp (by decide)) (Nat.le_of_ble_eq_true rfl) (Nat.le_of_ble_eq_true rfl) (Nat.le_of_ble_eq_true rfl) (fun q1 => ?_)
  try dsimp only [List.append, List.cons_append, List.nil_append, List.append_assoc]
  refine J.putF g jX0 0 (by decide) lf_X0_9 0 rfl rfl hin rfl (Nat.le_of_ble_eq_true rfl) rfl rfl dX0_init_10 ?_
  try dsimp only [List.set_cons_zero, List.set_cons_succ]
  refine J.aload_n g dX0_init_13 rfl rfl ?_
  refine J.bipush (v := nI 24) g dX0_init_14 (by decide +kernel) ?_
  refine J.newa g (N := 24) (i := 1) (ty := .byte) (a0 := (24, .inl (fun j => nI ((fun _ => 0) j)))) dX0_init_16 jac_B rfl rfl (fun _ => rfl) (nI_pos (by decide)) (nI_clamp (by decide)) (Nat.le_of_ble_eq_true rfl) (Nat.le_of_ble_eq_true rfl) (Nat.le_of_ble_eq_true rfl) (fun q2 => ?_)
  try dsimp only [List.append, List.cons_append, List.nil_append, List.append_assoc]
  refine J.putF g jX0 1 (by decide) lf_X0_15 0 rfl rfl hin rfl (Nat.le_of_ble_eq_true rfl) rfl rfl dX0_init_18 ?_
  try dsimp only [List.set_cons_zero, List.set_cons_succ]
  refine J.aload_n g dX0_init_21 rfl rfl ?_
  refine J.iconstN g 0 dX0_init_22 ?_
  refine J.put g jX0 2 (by decide) lf_X0_18 0 rfl rfl (Nat.le_of_ble_eq_true rfl) rfl rfl dX0_init_23 ?_
  try dsimp only [List.set_cons_zero, List.set_cons_succ]
  refine J.aload_n g dX0_init_26 rfl rfl ?_
  refine J.iconstN g 0 dX0_init_27 ?_
  refine J.put g jX0 3 (by decide) lf_X0_22 0 rfl rfl (Nat.le_of_ble_eq_true rfl) rfl rfl dX0_init_28 ?_
  try dsimp only [List.set_cons_zero, List.set_cons_succ]
  refine J.aload_n g dX0_init_31 rfl rfl ?_
  refine J.iconstN g 0 dX0_init_32 ?_
  refine J.put g jX0 4 (by decide) lf_X0_25 0 rfl rfl (Nat.le_of_ble_eq_true rfl) rfl rfl dX0_init_33 ?_
  try dsimp only [List.set_cons_zero, List.set_cons_succ]
  refine J.aload_n g dX0_init_36 rfl rfl ?_
  refine J.iconstN g 0 dX0_init_37 ?_
  refine J.put g jX0 5 (by decide) lf_X0_28 0 rfl rfl (Nat.le_of_ble_eq_true rfl) rfl rfl dX0_init_38 ?_
  try dsimp only [List.set_cons_zero, List.set_cons_succ]
  exact J.vret g hE (fun i => [q1, q2].getD i 0) rfl trivial rfl ⟨Nat.le_of_ble_eq_true rfl, Nat.le_of_ble_eq_true rfl⟩ dX0_init_41
set_option maxHeartbeats 4000000 in
set_option maxRecDepth 100000 in
theorem c_X1_init (l : Launch) (γ : jγ) (im : Nat)  : jM (S := Nat → Nat) l γ yX1_init cX1_init 1 none ({ frames := 2, cells := 2, slots := 14, locals := 40 } : Room) [.ref im] [(im, .inr (1, [.null, .int (nI 0), .int (jB false)]))] (fun u => none) (fun u => [(im, .inr (1, [.ref (u 0), .int (nI 0), .int (jB false)])), ((u 0), .inr (6, [.ref (u 1), .int (nI 0)])), ((u 1), .inl (γ.2 0, 12, .inl (fun j => nI ((fun _ => 0) j))))]) (fun u => True) := by
  refine jM.of [some (.ref im)] rfl (Nat.le_of_ble_eq_true rfl) (by decide) ?_
  intro x g hE hin
  refine J.aload_n g dX1_init_0 rfl rfl ?_
  refine J.objInit g dX1_init_1 loi_X1 joi_i joi_c (Nat.le_of_ble_eq_true rfl) ⟨Nat.le_of_ble_eq_true rfl, Nat.le_of_ble_eq_true rfl⟩ ?_
  refine J.aload_n g dX1_init_4 rfl rfl ?_
  refine J.new g tyX6 dX1_init_5 jX6.1 jX6.2.1 jX6.2.2.1 jcl_X1_7 jis_X6 jit_X6 (fs := [.null, .int (nI 0)]) (fun j hj => by rcases (show j = 0 ∨ j = 1 by omega) with rfl | rfl <;> rfl) (Nat.le_of_ble_eq_true rfl) (Nat.le_of_ble_eq_true rfl) (fun q1 => ?_)
  try dsimp only [List.append, List.cons_append, List.nil_append, List.append_assoc]
  refine J.dup g dX1_init_8 rfl ?_
  refine J.callIN g (c_X6_init l γ _) jy_X6_init jnl_X1_9 rfl ⟨⟨Nat.le_of_ble_eq_true rfl, Nat.le_of_ble_eq_true rfl⟩, Nat.le_of_ble_eq_true rfl, Nat.le_of_ble_eq_true rfl⟩ (Nat.le_of_ble_eq_true rfl) rfl [1] rfl (fun _ => rfl) rfl dX1_init_9 ?_
  intro v2 _
  dsimp only [jput, List.set_cons_zero, List.set_cons_succ, Option.toList, List.append, List.cons_append, List.nil_append, List.append_nil, List.append_assoc]
  refine J.putF g jX1 0 (by decide) lf_X1_10 0 rfl rfl hin rfl (Nat.le_of_ble_eq_true rfl) rfl rfl dX1_init_12 ?_
  try dsimp only [List.set_cons_zero, List.set_cons_succ]
  refine J.aload_n g dX1_init_15 rfl rfl ?_
  refine J.iconstN g 0 dX1_init_16 ?_
  refine J.put g jX1 1 (by decide) lf_X1_16 0 rfl rfl (Nat.le_of_ble_eq_true rfl) rfl rfl dX1_init_17 ?_
  try dsimp only [List.set_cons_zero, List.set_cons_succ]
  refine J.aload_n g dX1_init_20 rfl rfl ?_
  refine J.iconstN g 0 dX1_init_21 ?_
  refine J.put g jX1 2 (by decide) lf_X1_20 0 rfl rfl (Nat.le_of_ble_eq_true rfl) rfl rfl dX1_init_22 ?_
  try dsimp only [List.set_cons_zero, List.set_cons_succ]
  exact J.vret g hE (fun i => [q1, v2].getD i 0) rfl trivial rfl ⟨Nat.le_of_ble_eq_true rfl, Nat.le_of_ble_eq_true rfl⟩ dX1_init_25
set_option maxHeartbeats 4000000 in
set_option maxRecDepth 100000 in
theorem c_X2_init (l : Launch) (γ : jγ) (mu : Nat)  : jM (S := Nat → Nat) l γ yX2_init cX2_init 1 none ({ frames := 2, cells := 5, slots := 41, locals := 40 } : Room) [.ref mu] [(mu, .inr (2, [.null, .null, .null, .int (nI 0)]))] (fun u => none) (fun u => [(mu, .inr (2, [.ref (u 0), .ref (u 1), .ref (u 3), .int (nI 0)])), ((u 0), .inl (γ.2 0, 13, .inl (fun j => nI ((fun _ => 0) j)))), ((u 1), .inr (6, [.ref (u 2), .int (nI 0)])), ((u 2), .inl (γ.2 0, 12, .inl (fun j => nI ((fun _ => 0) j)))), ((u 3), .inr (6, [.ref (u 4), .int (nI 0)])), ((u 4), .inl (γ.2 0, 12, .inl (fun j => nI ((fun _ => 0) j))))]) (fun u => True) := by
  refine jM.of [some (.ref mu)] rfl (Nat.le_of_ble_eq_true rfl) (by decide) ?_
  intro x g hE hin
  refine J.aload_n g dX2_init_0 rfl rfl ?_
  refine J.objInit g dX2_init_1 loi_X2 joi_i joi_c (Nat.le_of_ble_eq_true rfl) ⟨Nat.le_of_ble_eq_true rfl, Nat.le_of_ble_eq_true rfl⟩ ?_
  refine J.aload_n g dX2_init_4 rfl rfl ?_
  refine J.bipush (v := nI 13) g dX2_init_5 (by decide +kernel) ?_
  refine J.newa g (N := 13) (i := 0) (ty := .int) (a0 := (13, .inl (fun j => nI ((fun _ => 0) j)))) dX2_init_7 jac_I rfl rfl (fun _ => rfl) (nI_pos (by decide)) (nI_clamp (by decide)) (Nat.le_of_ble_eq_true rfl) (Nat.le_of_ble_eq_true rfl) (Nat.le_of_ble_eq_true rfl) (fun q1 => ?_)
  try dsimp only [List.append, List.cons_append, List.nil_append, List.append_assoc]
  refine J.putF g jX2 0 (by decide) lf_X2_9 0 rfl rfl hin rfl (Nat.le_of_ble_eq_true rfl) rfl rfl dX2_init_9 ?_
  try dsimp only [List.set_cons_zero, List.set_cons_succ]
  refine J.aload_n g dX2_init_12 rfl rfl ?_
  refine J.new g tyX6 dX2_init_13 jX6.1 jX6.2.1 jX6.2.2.1 jcl_X2_15 jis_X6 jit_X6 (fs := [.null, .int (nI 0)]) (fun j hj => by rcases (show j = 0 ∨ j = 1 by omega) with rfl | rfl <;> rfl) (Nat.le_of_ble_eq_true rfl) (Nat.le_of_ble_eq_true rfl) (fun q2 => ?_)
  try dsimp only [List.append, List.cons_append, List.nil_append, List.append_assoc]
  refine J.dup g dX2_init_16 rfl ?_
  refine J.callIN g (c_X6_init l γ _) jy_X6_init jnl_X2_17 rfl ⟨⟨Nat.le_of_ble_eq_true rfl, Nat.le_of_ble_eq_true rfl⟩, Nat.le_of_ble_eq_true rfl, Nat.le_of_ble_eq_true rfl⟩ (Nat.le_of_ble_eq_true rfl) rfl [2] rfl (fun _ => rfl) rfl dX2_init_17 ?_
  intro v3 _
  dsimp only [jput, List.set_cons_zero, List.set_cons_succ, Option.toList, List.append, List.cons_append, List.nil_append, List.append_nil, List.append_assoc]
  refine J.putF g jX2 1 (by decide) lf_X2_18 0 rfl rfl hin rfl (Nat.le_of_ble_eq_true rfl) rfl rfl dX2_init_20 ?_
  try dsimp only [List.set_cons_zero, List.set_cons_succ]
  refine J.aload_n g dX2_init_23 rfl rfl ?_
  refine J.new g tyX6 dX2_init_24 jX6.1 jX6.2.1 jX6.2.2.1 jcl_X2_15 jis_X6 jit_X6 (fs := [.null, .int (nI 0)]) (fun j hj => by rcases (show j = 0 ∨ j = 1 by omega) with rfl | rfl <;> rfl) (Nat.le_of_ble_eq_true rfl) (Nat.le_of_ble_eq_true rfl) (fun q4 => ?_)
  try dsimp only [List.append, List.cons_append, List.nil_append, List.append_assoc]
  refine J.dup g dX2_init_27 rfl ?_
  refine J.callIN g (c_X6_init l γ _) jy_X6_init jnl_X2_17 rfl ⟨⟨Nat.le_of_ble_eq_true rfl, Nat.le_of_ble_eq_true rfl⟩, Nat.le_of_ble_eq_true rfl, Nat.le_of_ble_eq_true rfl⟩ (Nat.le_of_ble_eq_true rfl) rfl [4] rfl (fun _ => rfl) rfl dX2_init_28 ?_
  intro v5 _
  dsimp only [jput, List.set_cons_zero, List.set_cons_succ, Option.toList, List.append, List.cons_append, List.nil_append, List.append_nil, List.append_assoc]
  refine J.putF g jX2 2 (by decide) lf_X2_22 0 rfl rfl hin rfl (Nat.le_of_ble_eq_true rfl) rfl rfl dX2_init_31 ?_
  try dsimp only [List.set_cons_zero, List.set_cons_succ]
  refine J.aload_n g dX2_init_34 rfl rfl ?_
  refine J.iconstN g 0 dX2_init_35 ?_
  refine J.put g jX2 3 (by decide) lf_X2_25 0 rfl rfl (Nat.le_of_ble_eq_true rfl) rfl rfl dX2_init_36 ?_
  try dsimp only [List.set_cons_zero, List.set_cons_succ]
  exact J.vret g hE (fun i => [q1, q2, v3, q4, v5].getD i 0) rfl trivial rfl ⟨Nat.le_of_ble_eq_true rfl, Nat.le_of_ble_eq_true rfl⟩ dX2_init_39
set_option maxHeartbeats 4000000 in
set_option maxRecDepth 100000 in
theorem c_X3_init (l : Launch) (γ : jγ) (pp : Nat)  : jM (S := Nat → Nat) l γ yX3_init cX3_init 1 none ({ frames := 2, cells := 5, slots := 12302, locals := 40 } : Room) [.ref pp] [(pp, .inr (3, [.null, .null, .null, .null, .int (nI 0), .int (nI 0)]))] (fun u => none) (fun u => [(pp, .inr (3, [.ref (u 0), .ref (u 1), .ref (u 2), .ref (u 3), .int (nI 0), .int (nI 0)])), ((u 0), .inl (γ.2 1, 4096, .inl (fun j => nI ((fun _ => 0) j)))), ((u 1), .inl (γ.2 1, 4096, .inl (fun j => nI ((fun _ => 0) j)))), ((u 2), .inl (γ.2 1, 4096, .inl (fun j => nI ((fun _ => 0) j)))), ((u 3), .inr (6, [.ref (u 4), .int (nI 0)])), ((u 4), .inl (γ.2 0, 12, .inl (fun j => nI ((fun _ => 0) j))))]) (fun u => True) := by
  refine jM.of [some (.ref pp)] rfl (Nat.le_of_ble_eq_true rfl) (by decide) ?_
  intro x g hE hin
  refine J.aload_n g dX3_init_0 rfl rfl ?_
  refine J.objInit g dX3_init_1 loi_X3 joi_i joi_c (Nat.le_of_ble_eq_true rfl) ⟨Nat.le_of_ble_eq_true rfl, Nat.le_of_ble_eq_true rfl⟩ ?_
  refine J.aload_n g dX3_init_4 rfl rfl ?_
  refine J.sipush (v := nI 4096) g dX3_init_5 (by decide +kernel) ?_
  refine J.newa g (N := 4096) (i := 1) (ty := .byte) (a0 := (4096, .inl (fun j => nI ((fun _ => 0) j)))) dX3_init_8 jac_B rfl rfl (fun _ => rfl) (nI_pos (by decide)) (nI_clamp (by decide)) (Nat.le_of_ble_eq_true rfl) (Nat.le_of_ble_eq_true rfl) (Nat.le_of_ble_eq_true rfl) (fun q1 => ?_)
  try dsimp only [List.append, List.cons_append, List.nil_append, List.append_assoc]
  refine J.putF g jX3 0 (by decide) lf_X3_9 0 rfl rfl hin rfl (Nat.le_of_ble_eq_true rfl) rfl rfl dX3_init_10 ?_
  try dsimp only [List.set_cons_zero, List.set_cons_succ]
  refine J.aload_n g dX3_init_13 rfl rfl ?_
  refine J.sipush (v := nI 4096) g dX3_init_14 (by decide +kernel) ?_
  refine J.newa g (N := 4096) (i := 1) (ty := .byte) (a0 := (4096, .inl (fun j => nI ((fun _ => 0) j)))) dX3_init_17 jac_B rfl rfl (fun _ => rfl) (nI_pos (by decide)) (nI_clamp (by decide)) (Nat.le_of_ble_eq_true rfl) (Nat.le_of_ble_eq_true rfl) (Nat.le_of_ble_eq_true rfl) (fun q2 => ?_)
  try dsimp only [List.append, List.cons_append, List.nil_append, List.append_assoc]
  refine J.putF g jX3 1 (by decide) lf_X3_15 0 rfl rfl hin rfl (Nat.le_of_ble_eq_true rfl) rfl rfl dX3_init_19 ?_
  try dsimp only [List.set_cons_zero, List.set_cons_succ]
  refine J.aload_n g dX3_init_22 rfl rfl ?_
  refine J.sipush (v := nI 4096) g dX3_init_23 (by decide +kernel) ?_
  refine J.newa g (N := 4096) (i := 1) (ty := .byte) (a0 := (4096, .inl (fun j => nI ((fun _ => 0) j)))) dX3_init_26 jac_B rfl rfl (fun _ => rfl) (nI_pos (by decide)) (nI_clamp (by decide)) (Nat.le_of_ble_eq_true rfl) (Nat.le_of_ble_eq_true rfl) (Nat.le_of_ble_eq_true rfl) (fun q3 => ?_)
  try dsimp only [List.append, List.cons_append, List.nil_append, List.append_assoc]
  refine J.putF g jX3 2 (by decide) lf_X3_18 0 rfl rfl hin rfl (Nat.le_of_ble_eq_true rfl) rfl rfl dX3_init_28 ?_
  try dsimp only [List.set_cons_zero, List.set_cons_succ]
  refine J.aload_n g dX3_init_31 rfl rfl ?_
  refine J.new g tyX6 dX3_init_32 jX6.1 jX6.2.1 jX6.2.2.1 jcl_X3_21 jis_X6 jit_X6 (fs := [.null, .int (nI 0)]) (fun j hj => by rcases (show j = 0 ∨ j = 1 by omega) with rfl | rfl <;> rfl) (Nat.le_of_ble_eq_true rfl) (Nat.le_of_ble_eq_true rfl) (fun q4 => ?_)
  try dsimp only [List.append, List.cons_append, List.nil_append, List.append_assoc]
  refine J.dup g dX3_init_35 rfl ?_
  refine J.callIN g (c_X6_init l γ _) jy_X6_init jnl_X3_23 rfl ⟨⟨Nat.le_of_ble_eq_true rfl, Nat.le_of_ble_eq_true rfl⟩, Nat.le_of_ble_eq_true rfl, Nat.le_of_ble_eq_true rfl⟩ (Nat.le_of_ble_eq_true rfl) rfl [4] rfl (fun _ => rfl) rfl dX3_init_36 ?_
  intro v5 _
  dsimp only [jput, List.set_cons_zero, List.set_cons_succ, Option.toList, List.append, List.cons_append, List.nil_append, List.append_nil, List.append_assoc]
  refine J.putF g jX3 3 (by decide) lf_X3_24 0 rfl rfl hin rfl (Nat.le_of_ble_eq_true rfl) rfl rfl dX3_init_39 ?_
  try dsimp only [List.set_cons_zero, List.set_cons_succ]
  refine J.aload_n g dX3_init_42 rfl rfl ?_
  refine J.iconstN g 0 dX3_init_43 ?_
  refine J.put g jX3 4 (by decide) lf_X3_28 0 rfl rfl (Nat.le_of_ble_eq_true rfl) rfl rfl dX3_init_44 ?_
  try dsimp only [List.set_cons_zero, List.set_cons_succ]
  refine J.aload_n g dX3_init_47 rfl rfl ?_
  refine J.iconstN g 0 dX3_init_48 ?_
  refine J.put g jX3 5 (by decide) lf_X3_32 0 rfl rfl (Nat.le_of_ble_eq_true rfl) rfl rfl dX3_init_49 ?_
  try dsimp only [List.set_cons_zero, List.set_cons_succ]
  exact J.vret g hE (fun i => [q1, q2, q3, q4, v5].getD i 0) rfl trivial rfl ⟨Nat.le_of_ble_eq_true rfl, Nat.le_of_ble_eq_true rfl⟩ dX3_init_52
set_option maxHeartbeats 4000000 in
set_option maxRecDepth 100000 in
theorem c_X7_init (l : Launch) (γ : jγ) (sgn : Nat)  : jM (S := Nat → Nat) l γ yX7_init cX7_init 1 none ({ frames := 1, cells := 4, slots := 74, locals := 20 } : Room) [.ref sgn] [(sgn, .inr (7, [.null, .null, .null, .null]))] (fun u => none) (fun u => [(sgn, .inr (7, [.ref (u 0), .ref (u 1), .ref (u 2), .ref (u 3)])), ((u 0), .inl (γ.2 0, 24, .inl (fun j => nI ((fun _ => 0) j)))), ((u 1), .inl (γ.2 0, 24, .inl (fun j => nI ((fun _ => 0) j)))), ((u 2), .inl (γ.2 0, 13, .inl (fun j => nI ((fun _ => 0) j)))), ((u 3), .inl (γ.2 0, 13, .inl (fun j => nI ((fun _ => 0) j))))]) (fun u => True) := by
  refine jM.of [some (.ref sgn)] rfl (Nat.le_of_ble_eq_true rfl) (by decide) ?_
  intro x g hE hin
  refine J.aload_n g dX7_init_0 rfl rfl ?_
  refine J.objInit g dX7_init_1 loi_X7 joi_i joi_c (Nat.le_of_ble_eq_true rfl) ⟨Nat.le_of_ble_eq_true rfl, Nat.le_of_ble_eq_true rfl⟩ ?_
  refine J.aload_n g dX7_init_4 rfl rfl ?_
  refine J.bipush (v := nI 24) g dX7_init_5 (by decide +kernel) ?_
  refine J.newa g (N := 24) (i := 0) (ty := .int) (a0 := (24, .inl (fun j => nI ((fun _ => 0) j)))) dX7_init_7 jac_I rfl rfl (fun _ => rfl) (nI_pos (by decide)) (nI_clamp (by decide)) (Nat.le_of_ble_eq_true rfl) (Nat.le_of_ble_eq_true rfl) (Nat.le_of_ble_eq_true rfl) (fun q1 => ?_)
  try dsimp only [List.append, List.cons_append, List.nil_append, List.append_assoc]
  refine J.putF g jX7 0 (by decide) lf_X7_9 0 rfl rfl hin rfl (Nat.le_of_ble_eq_true rfl) rfl rfl dX7_init_9 ?_
  try dsimp only [List.set_cons_zero, List.set_cons_succ]
  refine J.aload_n g dX7_init_12 rfl rfl ?_
  refine J.bipush (v := nI 24) g dX7_init_13 (by decide +kernel) ?_
  refine J.newa g (N := 24) (i := 0) (ty := .int) (a0 := (24, .inl (fun j => nI ((fun _ => 0) j)))) dX7_init_15 jac_I rfl rfl (fun _ => rfl) (nI_pos (by decide)) (nI_clamp (by decide)) (Nat.le_of_ble_eq_true rfl) (Nat.le_of_ble_eq_true rfl) (Nat.le_of_ble_eq_true rfl) (fun q2 => ?_)
  try dsimp only [List.append, List.cons_append, List.nil_append, List.append_assoc]
  refine J.putF g jX7 1 (by decide) lf_X7_15 0 rfl rfl hin rfl (Nat.le_of_ble_eq_true rfl) rfl rfl dX7_init_17 ?_
  try dsimp only [List.set_cons_zero, List.set_cons_succ]
  refine J.aload_n g dX7_init_20 rfl rfl ?_
  refine J.bipush (v := nI 13) g dX7_init_21 (by decide +kernel) ?_
  refine J.newa g (N := 13) (i := 0) (ty := .int) (a0 := (13, .inl (fun j => nI ((fun _ => 0) j)))) dX7_init_23 jac_I rfl rfl (fun _ => rfl) (nI_pos (by decide)) (nI_clamp (by decide)) (Nat.le_of_ble_eq_true rfl) (Nat.le_of_ble_eq_true rfl) (Nat.le_of_ble_eq_true rfl) (fun q3 => ?_)
  try dsimp only [List.append, List.cons_append, List.nil_append, List.append_assoc]
  refine J.putF g jX7 2 (by decide) lf_X7_18 0 rfl rfl hin rfl (Nat.le_of_ble_eq_true rfl) rfl rfl dX7_init_25 ?_
  try dsimp only [List.set_cons_zero, List.set_cons_succ]
  refine J.aload_n g dX7_init_28 rfl rfl ?_
  refine J.bipush (v := nI 13) g dX7_init_29 (by decide +kernel) ?_
  refine J.newa g (N := 13) (i := 0) (ty := .int) (a0 := (13, .inl (fun j => nI ((fun _ => 0) j)))) dX7_init_31 jac_I rfl rfl (fun _ => rfl) (nI_pos (by decide)) (nI_clamp (by decide)) (Nat.le_of_ble_eq_true rfl) (Nat.le_of_ble_eq_true rfl) (Nat.le_of_ble_eq_true rfl) (fun q4 => ?_)
  try dsimp only [List.append, List.cons_append, List.nil_append, List.append_assoc]
  refine J.putF g jX7 3 (by decide) lf_X7_21 0 rfl rfl hin rfl (Nat.le_of_ble_eq_true rfl) rfl rfl dX7_init_33 ?_
  try dsimp only [List.set_cons_zero, List.set_cons_succ]
  exact J.vret g hE (fun i => [q1, q2, q3, q4].getD i 0) rfl trivial rfl ⟨Nat.le_of_ble_eq_true rfl, Nat.le_of_ble_eq_true rfl⟩ dX7_init_36
set_option maxHeartbeats 4000000 in
set_option maxRecDepth 100000 in
theorem c_X5_init (l : Launch) (γ : jγ) (rd : Nat)  : jM (S := Nat → Nat) l γ yX5_init cX5_init 1 none ({ frames := 2, cells := 4, slots := 356, locals := 40 } : Room) [.ref rd] [(rd, .inr (5, [.null, .int (nI 0), .int (nI 0), .int (nI 0), .int (nI 0), .int (nI 0), .int (nI 0), .int (nI 0), .int (nI 0), .int (nI 0), .null]))] (fun u => none) (fun u => [(rd, .inr (5, [.ref (u 0), .int (nI 0), .int (nI 0), .int (nI 0), .int (nI 0), .int (nI 0), .int (nI 0), .int (nI 0), .int (nI 0), .int (-1), .ref (u 2)])), ((u 0), .inr (9, [.ref (u 1), .int (nI 0)])), ((u 1), .inl (γ.2 1, 340, .inl (fun _ => 0))), ((u 2), .inr (6, [.ref (u 3), .int (nI 0)])), ((u 3), .inl (γ.2 0, 12, .inl (fun j => nI ((fun _ => 0) j))))]) (fun u => True) := by
  refine jM.of [some (.ref rd)] rfl (Nat.le_of_ble_eq_true rfl) (by decide) ?_
  intro x g hE hin
  refine J.aload_n g dX5_init_0 rfl rfl ?_
  refine J.objInit g dX5_init_1 loi_X5 joi_i joi_c (Nat.le_of_ble_eq_true rfl) ⟨Nat.le_of_ble_eq_true rfl, Nat.le_of_ble_eq_true rfl⟩ ?_
  refine J.aload_n g dX5_init_4 rfl rfl ?_
  refine J.new g tyX9 dX5_init_5 jX9.1 jX9.2.1 jX9.2.2.1 jcl_X5_9 jis_X9 jit_X9 (fs := [.null, .int (nI 0)]) (fun j hj => by rcases (show j = 0 ∨ j = 1 by omega) with rfl | rfl <;> rfl) (Nat.le_of_ble_eq_true rfl) (Nat.le_of_ble_eq_true rfl) (fun q1 => ?_)
  try dsimp only [List.append, List.cons_append, List.nil_append, List.append_assoc]
  refine J.dup g dX5_init_8 rfl ?_
  refine J.callIN g (c_X9_init l γ _) jy_X9_init jnl_X5_11 rfl ⟨⟨Nat.le_of_ble_eq_true rfl, Nat.le_of_ble_eq_true rfl⟩, Nat.le_of_ble_eq_true rfl, Nat.le_of_ble_eq_true rfl⟩ (Nat.le_of_ble_eq_true rfl) rfl [1] rfl (fun _ => rfl) rfl dX5_init_9 ?_
  intro v2 _
  dsimp only [jput, List.set_cons_zero, List.set_cons_succ, Option.toList, List.append, List.cons_append, List.nil_append, List.append_nil, List.append_assoc]
  refine J.putF g jX5 0 (by decide) lf_X5_12 0 rfl rfl hin rfl (Nat.le_of_ble_eq_true rfl) rfl rfl dX5_init_12 ?_
  try dsimp only [List.set_cons_zero, List.set_cons_succ]
  refine J.aload_n g dX5_init_15 rfl rfl ?_
  refine J.iconstN g 0 dX5_init_16 ?_
  refine J.put g jX5 1 (by decide) lf_X5_18 0 rfl rfl (Nat.le_of_ble_eq_true rfl) rfl rfl dX5_init_17 ?_
  try dsimp only [List.set_cons_zero, List.set_cons_succ]
  refine J.aload_n g dX5_init_20 rfl rfl ?_
  refine J.iconstN g 0 dX5_init_21 ?_
  refine J.put g jX5 2 (by decide) lf_X5_22 0 rfl rfl (Nat.le_of_ble_eq_true rfl) rfl rfl dX5_init_22 ?_
  try dsimp only [List.set_cons_zero, List.set_cons_succ]
  refine J.aload_n g dX5_init_25 rfl rfl ?_
  refine J.iconstN g 0 dX5_init_26 ?_
  refine J.put g jX5 3 (by decide) lf_X5_25 0 rfl rfl (Nat.le_of_ble_eq_true rfl) rfl rfl dX5_init_27 ?_
  try dsimp only [List.set_cons_zero, List.set_cons_succ]
  refine J.aload_n g dX5_init_30 rfl rfl ?_
  refine J.iconstN g 0 dX5_init_31 ?_
  refine J.put g jX5 4 (by decide) lf_X5_28 0 rfl rfl (Nat.le_of_ble_eq_true rfl) rfl rfl dX5_init_32 ?_
  try dsimp only [List.set_cons_zero, List.set_cons_succ]
  refine J.aload_n g dX5_init_35 rfl rfl ?_
  refine J.iconstN g 0 dX5_init_36 ?_
  refine J.put g jX5 5 (by decide) lf_X5_31 0 rfl rfl (Nat.le_of_ble_eq_true rfl) rfl rfl dX5_init_37 ?_
  try dsimp only [List.set_cons_zero, List.set_cons_succ]
  refine J.aload_n g dX5_init_40 rfl rfl ?_
  refine J.iconstN g 0 dX5_init_41 ?_
  refine J.put g jX5 6 (by decide) lf_X5_34 0 rfl rfl (Nat.le_of_ble_eq_true rfl) rfl rfl dX5_init_42 ?_
  try dsimp only [List.set_cons_zero, List.set_cons_succ]
  refine J.aload_n g dX5_init_45 rfl rfl ?_
  refine J.iconstN g 0 dX5_init_46 ?_
  refine J.put g jX5 7 (by decide) lf_X5_37 0 rfl rfl (Nat.le_of_ble_eq_true rfl) rfl rfl dX5_init_47 ?_
  try dsimp only [List.set_cons_zero, List.set_cons_succ]
  refine J.aload_n g dX5_init_50 rfl rfl ?_
  refine J.iconstN g 0 dX5_init_51 ?_
  refine J.put g jX5 8 (by decide) lf_X5_40 0 rfl rfl (Nat.le_of_ble_eq_true rfl) rfl rfl dX5_init_52 ?_
  try dsimp only [List.set_cons_zero, List.set_cons_succ]
  refine J.aload_n g dX5_init_55 rfl rfl ?_
  refine J.iconst (v := -1) g dX5_init_56 (by decide) ?_
  refine J.put g jX5 9 (by decide) lf_X5_43 0 rfl rfl (Nat.le_of_ble_eq_true rfl) rfl rfl dX5_init_57 ?_
  try dsimp only [List.set_cons_zero, List.set_cons_succ]
  refine J.aload_n g dX5_init_60 rfl rfl ?_
  refine J.new g tyX6 dX5_init_61 jX6.1 jX6.2.1 jX6.2.2.1 jcl_X5_46 jis_X6 jit_X6 (fs := [.null, .int (nI 0)]) (fun j hj => by rcases (show j = 0 ∨ j = 1 by omega) with rfl | rfl <;> rfl) (Nat.le_of_ble_eq_true rfl) (Nat.le_of_ble_eq_true rfl) (fun q3 => ?_)
  try dsimp only [List.append, List.cons_append, List.nil_append, List.append_assoc]
  refine J.dup g dX5_init_64 rfl ?_
  refine J.callIN g (c_X6_init l γ _) jy_X6_init jnl_X5_48 rfl ⟨⟨Nat.le_of_ble_eq_true rfl, Nat.le_of_ble_eq_true rfl⟩, Nat.le_of_ble_eq_true rfl, Nat.le_of_ble_eq_true rfl⟩ (Nat.le_of_ble_eq_true rfl) rfl [3] rfl (fun _ => rfl) rfl dX5_init_65 ?_
  intro v4 _
  dsimp only [jput, List.set_cons_zero, List.set_cons_succ, Option.toList, List.append, List.cons_append, List.nil_append, List.append_nil, List.append_assoc]
  refine J.putF g jX5 10 (by decide) lf_X5_49 0 rfl rfl hin rfl (Nat.le_of_ble_eq_true rfl) rfl rfl dX5_init_68 ?_
  try dsimp only [List.set_cons_zero, List.set_cons_succ]
  exact J.vret g hE (fun i => [q1, v2, q3, v4].getD i 0) rfl trivial rfl ⟨Nat.le_of_ble_eq_true rfl, Nat.le_of_ble_eq_true rfl⟩ dX5_init_71
set_option maxHeartbeats 4000000 in
set_option maxRecDepth 100000 in
theorem c_X5_tape (l : Launch) (γ : jγ) (rd tp rr nx tk pl nm gc rows fk fp : Nat) (fr : Int32)  : jM (S := Unit) l γ yX5_tape cX5_tape 1 (some (.object "NoughtSums$Tape")) ({ frames := 0, cells := 0, slots := 0, locals := 0 } : Room) [.ref rd] [(rd, .inr (5, [.ref tp, .int (nI nx), .int (nI tk), .int (nI pl), .int (nI nm), .int (nI gc), .int (nI rows), .int (nI fk), .int (nI fp), .int fr, .ref rr]))] (fun w0 => some (.ref tp)) (fun w0 => [(rd, .inr (5, [.ref tp, .int (nI nx), .int (nI tk), .int (nI pl), .int (nI nm), .int (nI gc), .int (nI rows), .int (nI fk), .int (nI fp), .int fr, .ref rr]))]) (fun w0 => True) := by
  refine jM.of [some (.ref rd)] rfl (Nat.le_of_ble_eq_true rfl) (by decide) ?_
  intro x g hE hin
  refine J.aload_n g dX5_tape_0 rfl rfl ?_
  refine J.get g jX5 0 (by decide) lf_X5_12 0 rfl rfl dX5_tape_1 ?_
  exact J.aret (Or.inr ⟨_, rfl⟩) g hE () rfl trivial rfl ⟨Nat.le_of_ble_eq_true rfl, Nat.le_of_ble_eq_true rfl⟩ dX5_tape_4
set_option maxHeartbeats 4000000 in
set_option maxRecDepth 100000 in
theorem c_X4_init (l : Launch) (γ : jγ) (pa : Nat)  : jM (S := Nat → Nat) l γ yX4_init cX4_init 2 none ({ frames := 2, cells := 17, slots := 120, locals := 40 } : Room) [.ref pa] [(pa, .inr (4, [.null, .int (nI 0), .int (nI 0)]))] (fun u => none) (fun u => [(pa, .inr (4, [.ref (u 0), .int (nI 0), .int (nI 0)])), ((u 0), .inl (γ.2 5, 8, .inr (.inr (.inr (.inr (fun i => some (u (1 + 2 * i)))))))), ((u 1), .inr (6, [.ref (u 2), .int (nI 0)])), ((u 2), .inl (γ.2 0, 12, .inl (fun j => nI ((fun _ => 0) j)))), ((u 3), .inr (6, [.ref (u 4), .int (nI 0)])), ((u 4), .inl (γ.2 0, 12, .inl (fun j => nI ((fun _ => 0) j)))), ((u 5), .inr (6, [.ref (u 6), .int (nI 0)])), ((u 6), .inl (γ.2 0, 12, .inl (fun j => nI ((fun _ => 0) j)))), ((u 7), .inr (6, [.ref (u 8), .int (nI 0)])), ((u 8), .inl (γ.2 0, 12, .inl (fun j => nI ((fun _ => 0) j)))), ((u 9), .inr (6, [.ref (u 10), .int (nI 0)])), ((u 10), .inl (γ.2 0, 12, .inl (fun j => nI ((fun _ => 0) j)))), ((u 11), .inr (6, [.ref (u 12), .int (nI 0)])), ((u 12), .inl (γ.2 0, 12, .inl (fun j => nI ((fun _ => 0) j)))), ((u 13), .inr (6, [.ref (u 14), .int (nI 0)])), ((u 14), .inl (γ.2 0, 12, .inl (fun j => nI ((fun _ => 0) j)))), ((u 15), .inr (6, [.ref (u 16), .int (nI 0)])), ((u 16), .inl (γ.2 0, 12, .inl (fun j => nI ((fun _ => 0) j))))]) (fun u => True) := by
  refine jM.of [some (.ref pa), none] rfl (Nat.le_of_ble_eq_true rfl) (by decide) ?_
  intro x g hE hin
  refine J.aload_n g dX4_init_0 rfl rfl ?_
  refine J.objInit g dX4_init_1 loi_X4 joi_i joi_c (Nat.le_of_ble_eq_true rfl) ⟨Nat.le_of_ble_eq_true rfl, Nat.le_of_ble_eq_true rfl⟩ ?_
  refine J.aload_n g dX4_init_4 rfl rfl ?_
  refine J.bipush (v := nI 8) g dX4_init_5 (by decide +kernel) ?_
  refine J.newq2 g (N := 8) (i := 5) dX4_init_7 jcl_X4_9 (by decide) rfl (nI_pos (by decide)) (nI_clamp (by decide)) (Nat.le_of_ble_eq_true rfl) (Nat.le_of_ble_eq_true rfl) (Nat.le_of_ble_eq_true rfl) (fun q1 => ?_)
  try dsimp only [List.append, List.cons_append, List.nil_append, List.append_assoc]
  refine J.putF g jX4 0 (by decide) lf_X4_11 0 rfl rfl hin rfl (Nat.le_of_ble_eq_true rfl) rfl rfl dX4_init_10 ?_
  try dsimp only [List.set_cons_zero, List.set_cons_succ]
  refine J.aload_n g dX4_init_13 rfl rfl ?_
  refine J.iconstN g 0 dX4_init_14 ?_
  refine J.put g jX4 1 (by decide) lf_X4_17 0 rfl rfl (Nat.le_of_ble_eq_true rfl) rfl rfl dX4_init_15 ?_
  try dsimp only [List.set_cons_zero, List.set_cons_succ]
  refine J.aload_n g dX4_init_18 rfl rfl ?_
  refine J.iconstN g 0 dX4_init_19 ?_
  refine J.put g jX4 2 (by decide) lf_X4_21 0 rfl rfl (Nat.le_of_ble_eq_true rfl) rfl rfl dX4_init_20 ?_
  try dsimp only [List.set_cons_zero, List.set_cons_succ]
  refine J.iconstN g 0 dX4_init_23 ?_
  refine J.istore_n g dX4_init_24 rfl rfl rfl ?_
  try dsimp only [List.set_cons_zero, List.set_cons_succ]
  refine J.iload_n g dX4_init_25 rfl rfl ?_
  refine J.aload_n g dX4_init_26 rfl rfl ?_
  refine J.get g jX4 0 (by decide) lf_X4_11 0 rfl rfl dX4_init_27 ?_
  refine J.alen (v := nI 8) g 1 5 rfl rfl rfl dX4_init_30 ?_
  refine J.icmp_geN g dX4_init_31 (tgt := 53) (by decide) (by omega) (by omega) (fun c_31 => absurd c_31 (by omega)) (fun c_31 => ?_)
  refine J.aload_n g dX4_init_34 rfl rfl ?_
  refine J.get g jX4 0 (by decide) lf_X4_11 0 rfl rfl dX4_init_35 ?_
  refine J.iload_n g dX4_init_38 rfl rfl ?_
  refine J.new g tyX6 dX4_init_39 jX6.1 jX6.2.1 jX6.2.2.1 jcl_X4_9 jis_X6 jit_X6 (fs := [.null, .int (nI 0)]) (fun j hj => by rcases (show j = 0 ∨ j = 1 by omega) with rfl | rfl <;> rfl) (Nat.le_of_ble_eq_true rfl) (Nat.le_of_ble_eq_true rfl) (fun q2 => ?_)
  try dsimp only [List.append, List.cons_append, List.nil_append, List.append_assoc]
  refine J.dup g dX4_init_42 rfl ?_
  refine J.callIN g (c_X6_init l γ _) jy_X6_init jnl_X4_24 rfl ⟨⟨Nat.le_of_ble_eq_true rfl, Nat.le_of_ble_eq_true rfl⟩, Nat.le_of_ble_eq_true rfl, Nat.le_of_ble_eq_true rfl⟩ (Nat.le_of_ble_eq_true rfl) rfl [2] rfl (fun _ => rfl) rfl dX4_init_43 ?_
  intro v3 _
  dsimp only [jput, List.set_cons_zero, List.set_cons_succ, Option.toList, List.append, List.cons_append, List.nil_append, List.append_nil, List.append_assoc]
  refine J.qast g 1 5 2 6 0 rfl rfl rfl rfl (by decide) (by decide) dX4_init_46 ?_
  try dsimp only [List.set_cons_zero, List.set_cons_succ]
  refine J.iincN g 1 dX4_init_47 rfl rfl ?_
  try dsimp only [List.set_cons_zero, List.set_cons_succ]
  refine J.goto g dX4_init_50 (tgt := 25) (by decide) ?_
  refine J.iload_n g dX4_init_25 rfl rfl ?_
  refine J.aload_n g dX4_init_26 rfl rfl ?_
  refine J.get g jX4 0 (by decide) lf_X4_11 0 rfl rfl dX4_init_27 ?_
  refine J.alen (v := nI 8) g 1 5 rfl rfl rfl dX4_init_30 ?_
  refine J.icmp_geN g dX4_init_31 (tgt := 53) (by decide) (by omega) (by omega) (fun c_31 => absurd c_31 (by omega)) (fun c_31 => ?_)
  refine J.aload_n g dX4_init_34 rfl rfl ?_
  refine J.get g jX4 0 (by decide) lf_X4_11 0 rfl rfl dX4_init_35 ?_
  refine J.iload_n g dX4_init_38 rfl rfl ?_
  refine J.new g tyX6 dX4_init_39 jX6.1 jX6.2.1 jX6.2.2.1 jcl_X4_9 jis_X6 jit_X6 (fs := [.null, .int (nI 0)]) (fun j hj => by rcases (show j = 0 ∨ j = 1 by omega) with rfl | rfl <;> rfl) (Nat.le_of_ble_eq_true rfl) (Nat.le_of_ble_eq_true rfl) (fun q4 => ?_)
  try dsimp only [List.append, List.cons_append, List.nil_append, List.append_assoc]
  refine J.dup g dX4_init_42 rfl ?_
  refine J.callIN g (c_X6_init l γ _) jy_X6_init jnl_X4_24 rfl ⟨⟨Nat.le_of_ble_eq_true rfl, Nat.le_of_ble_eq_true rfl⟩, Nat.le_of_ble_eq_true rfl, Nat.le_of_ble_eq_true rfl⟩ (Nat.le_of_ble_eq_true rfl) rfl [4] rfl (fun _ => rfl) rfl dX4_init_43 ?_
  intro v5 _
  dsimp only [jput, List.set_cons_zero, List.set_cons_succ, Option.toList, List.append, List.cons_append, List.nil_append, List.append_nil, List.append_assoc]
  refine J.qast g 1 5 4 6 1 rfl rfl rfl rfl (by decide) (by decide) dX4_init_46 ?_
  try dsimp only [List.set_cons_zero, List.set_cons_succ]
  refine J.iincN g 1 dX4_init_47 rfl rfl ?_
  try dsimp only [List.set_cons_zero, List.set_cons_succ]
  refine J.goto g dX4_init_50 (tgt := 25) (by decide) ?_
  refine J.iload_n g dX4_init_25 rfl rfl ?_
  refine J.aload_n g dX4_init_26 rfl rfl ?_
  refine J.get g jX4 0 (by decide) lf_X4_11 0 rfl rfl dX4_init_27 ?_
  refine J.alen (v := nI 8) g 1 5 rfl rfl rfl dX4_init_30 ?_
  refine J.icmp_geN g dX4_init_31 (tgt := 53) (by decide) (by omega) (by omega) (fun c_31 => absurd c_31 (by omega)) (fun c_31 => ?_)
  refine J.aload_n g dX4_init_34 rfl rfl ?_
  refine J.get g jX4 0 (by decide) lf_X4_11 0 rfl rfl dX4_init_35 ?_
  refine J.iload_n g dX4_init_38 rfl rfl ?_
  refine J.new g tyX6 dX4_init_39 jX6.1 jX6.2.1 jX6.2.2.1 jcl_X4_9 jis_X6 jit_X6 (fs := [.null, .int (nI 0)]) (fun j hj => by rcases (show j = 0 ∨ j = 1 by omega) with rfl | rfl <;> rfl) (Nat.le_of_ble_eq_true rfl) (Nat.le_of_ble_eq_true rfl) (fun q6 => ?_)
  try dsimp only [List.append, List.cons_append, List.nil_append, List.append_assoc]
  refine J.dup g dX4_init_42 rfl ?_
  refine J.callIN g (c_X6_init l γ _) jy_X6_init jnl_X4_24 rfl ⟨⟨Nat.le_of_ble_eq_true rfl, Nat.le_of_ble_eq_true rfl⟩, Nat.le_of_ble_eq_true rfl, Nat.le_of_ble_eq_true rfl⟩ (Nat.le_of_ble_eq_true rfl) rfl [6] rfl (fun _ => rfl) rfl dX4_init_43 ?_
  intro v7 _
  dsimp only [jput, List.set_cons_zero, List.set_cons_succ, Option.toList, List.append, List.cons_append, List.nil_append, List.append_nil, List.append_assoc]
  refine J.qast g 1 5 6 6 2 rfl rfl rfl rfl (by decide) (by decide) dX4_init_46 ?_
  try dsimp only [List.set_cons_zero, List.set_cons_succ]
  refine J.iincN g 1 dX4_init_47 rfl rfl ?_
  try dsimp only [List.set_cons_zero, List.set_cons_succ]
  refine J.goto g dX4_init_50 (tgt := 25) (by decide) ?_
  refine J.iload_n g dX4_init_25 rfl rfl ?_
  refine J.aload_n g dX4_init_26 rfl rfl ?_
  refine J.get g jX4 0 (by decide) lf_X4_11 0 rfl rfl dX4_init_27 ?_
  refine J.alen (v := nI 8) g 1 5 rfl rfl rfl dX4_init_30 ?_
  refine J.icmp_geN g dX4_init_31 (tgt := 53) (by decide) (by omega) (by omega) (fun c_31 => absurd c_31 (by omega)) (fun c_31 => ?_)
  refine J.aload_n g dX4_init_34 rfl rfl ?_
  refine J.get g jX4 0 (by decide) lf_X4_11 0 rfl rfl dX4_init_35 ?_
  refine J.iload_n g dX4_init_38 rfl rfl ?_
  refine J.new g tyX6 dX4_init_39 jX6.1 jX6.2.1 jX6.2.2.1 jcl_X4_9 jis_X6 jit_X6 (fs := [.null, .int (nI 0)]) (fun j hj => by rcases (show j = 0 ∨ j = 1 by omega) with rfl | rfl <;> rfl) (Nat.le_of_ble_eq_true rfl) (Nat.le_of_ble_eq_true rfl) (fun q8 => ?_)
  try dsimp only [List.append, List.cons_append, List.nil_append, List.append_assoc]
  refine J.dup g dX4_init_42 rfl ?_
  refine J.callIN g (c_X6_init l γ _) jy_X6_init jnl_X4_24 rfl ⟨⟨Nat.le_of_ble_eq_true rfl, Nat.le_of_ble_eq_true rfl⟩, Nat.le_of_ble_eq_true rfl, Nat.le_of_ble_eq_true rfl⟩ (Nat.le_of_ble_eq_true rfl) rfl [8] rfl (fun _ => rfl) rfl dX4_init_43 ?_
  intro v9 _
  dsimp only [jput, List.set_cons_zero, List.set_cons_succ, Option.toList, List.append, List.cons_append, List.nil_append, List.append_nil, List.append_assoc]
  refine J.qast g 1 5 8 6 3 rfl rfl rfl rfl (by decide) (by decide) dX4_init_46 ?_
  try dsimp only [List.set_cons_zero, List.set_cons_succ]
  refine J.iincN g 1 dX4_init_47 rfl rfl ?_
  try dsimp only [List.set_cons_zero, List.set_cons_succ]
  refine J.goto g dX4_init_50 (tgt := 25) (by decide) ?_
  refine J.iload_n g dX4_init_25 rfl rfl ?_
  refine J.aload_n g dX4_init_26 rfl rfl ?_
  refine J.get g jX4 0 (by decide) lf_X4_11 0 rfl rfl dX4_init_27 ?_
  refine J.alen (v := nI 8) g 1 5 rfl rfl rfl dX4_init_30 ?_
  refine J.icmp_geN g dX4_init_31 (tgt := 53) (by decide) (by omega) (by omega) (fun c_31 => absurd c_31 (by omega)) (fun c_31 => ?_)
  refine J.aload_n g dX4_init_34 rfl rfl ?_
  refine J.get g jX4 0 (by decide) lf_X4_11 0 rfl rfl dX4_init_35 ?_
  refine J.iload_n g dX4_init_38 rfl rfl ?_
  refine J.new g tyX6 dX4_init_39 jX6.1 jX6.2.1 jX6.2.2.1 jcl_X4_9 jis_X6 jit_X6 (fs := [.null, .int (nI 0)]) (fun j hj => by rcases (show j = 0 ∨ j = 1 by omega) with rfl | rfl <;> rfl) (Nat.le_of_ble_eq_true rfl) (Nat.le_of_ble_eq_true rfl) (fun q10 => ?_)
  try dsimp only [List.append, List.cons_append, List.nil_append, List.append_assoc]
  refine J.dup g dX4_init_42 rfl ?_
  refine J.callIN g (c_X6_init l γ _) jy_X6_init jnl_X4_24 rfl ⟨⟨Nat.le_of_ble_eq_true rfl, Nat.le_of_ble_eq_true rfl⟩, Nat.le_of_ble_eq_true rfl, Nat.le_of_ble_eq_true rfl⟩ (Nat.le_of_ble_eq_true rfl) rfl [10] rfl (fun _ => rfl) rfl dX4_init_43 ?_
  intro v11 _
  dsimp only [jput, List.set_cons_zero, List.set_cons_succ, Option.toList, List.append, List.cons_append, List.nil_append, List.append_nil, List.append_assoc]
  refine J.qast g 1 5 10 6 4 rfl rfl rfl rfl (by decide) (by decide) dX4_init_46 ?_
  try dsimp only [List.set_cons_zero, List.set_cons_succ]
  refine J.iincN g 1 dX4_init_47 rfl rfl ?_
  try dsimp only [List.set_cons_zero, List.set_cons_succ]
  refine J.goto g dX4_init_50 (tgt := 25) (by decide) ?_
  refine J.iload_n g dX4_init_25 rfl rfl ?_
  refine J.aload_n g dX4_init_26 rfl rfl ?_
  refine J.get g jX4 0 (by decide) lf_X4_11 0 rfl rfl dX4_init_27 ?_
  refine J.alen (v := nI 8) g 1 5 rfl rfl rfl dX4_init_30 ?_
  refine J.icmp_geN g dX4_init_31 (tgt := 53) (by decide) (by omega) (by omega) (fun c_31 => absurd c_31 (by omega)) (fun c_31 => ?_)
  refine J.aload_n g dX4_init_34 rfl rfl ?_
  refine J.get g jX4 0 (by decide) lf_X4_11 0 rfl rfl dX4_init_35 ?_
  refine J.iload_n g dX4_init_38 rfl rfl ?_
  refine J.new g tyX6 dX4_init_39 jX6.1 jX6.2.1 jX6.2.2.1 jcl_X4_9 jis_X6 jit_X6 (fs := [.null, .int (nI 0)]) (fun j hj => by rcases (show j = 0 ∨ j = 1 by omega) with rfl | rfl <;> rfl) (Nat.le_of_ble_eq_true rfl) (Nat.le_of_ble_eq_true rfl) (fun q12 => ?_)
  try dsimp only [List.append, List.cons_append, List.nil_append, List.append_assoc]
  refine J.dup g dX4_init_42 rfl ?_
  refine J.callIN g (c_X6_init l γ _) jy_X6_init jnl_X4_24 rfl ⟨⟨Nat.le_of_ble_eq_true rfl, Nat.le_of_ble_eq_true rfl⟩, Nat.le_of_ble_eq_true rfl, Nat.le_of_ble_eq_true rfl⟩ (Nat.le_of_ble_eq_true rfl) rfl [12] rfl (fun _ => rfl) rfl dX4_init_43 ?_
  intro v13 _
  dsimp only [jput, List.set_cons_zero, List.set_cons_succ, Option.toList, List.append, List.cons_append, List.nil_append, List.append_nil, List.append_assoc]
  refine J.qast g 1 5 12 6 5 rfl rfl rfl rfl (by decide) (by decide) dX4_init_46 ?_
  try dsimp only [List.set_cons_zero, List.set_cons_succ]
  refine J.iincN g 1 dX4_init_47 rfl rfl ?_
  try dsimp only [List.set_cons_zero, List.set_cons_succ]
  refine J.goto g dX4_init_50 (tgt := 25) (by decide) ?_
  refine J.iload_n g dX4_init_25 rfl rfl ?_
  refine J.aload_n g dX4_init_26 rfl rfl ?_
  refine J.get g jX4 0 (by decide) lf_X4_11 0 rfl rfl dX4_init_27 ?_
  refine J.alen (v := nI 8) g 1 5 rfl rfl rfl dX4_init_30 ?_
  refine J.icmp_geN g dX4_init_31 (tgt := 53) (by decide) (by omega) (by omega) (fun c_31 => absurd c_31 (by omega)) (fun c_31 => ?_)
  refine J.aload_n g dX4_init_34 rfl rfl ?_
  refine J.get g jX4 0 (by decide) lf_X4_11 0 rfl rfl dX4_init_35 ?_
  refine J.iload_n g dX4_init_38 rfl rfl ?_
  refine J.new g tyX6 dX4_init_39 jX6.1 jX6.2.1 jX6.2.2.1 jcl_X4_9 jis_X6 jit_X6 (fs := [.null, .int (nI 0)]) (fun j hj => by rcases (show j = 0 ∨ j = 1 by omega) with rfl | rfl <;> rfl) (Nat.le_of_ble_eq_true rfl) (Nat.le_of_ble_eq_true rfl) (fun q14 => ?_)
  try dsimp only [List.append, List.cons_append, List.nil_append, List.append_assoc]
  refine J.dup g dX4_init_42 rfl ?_
  refine J.callIN g (c_X6_init l γ _) jy_X6_init jnl_X4_24 rfl ⟨⟨Nat.le_of_ble_eq_true rfl, Nat.le_of_ble_eq_true rfl⟩, Nat.le_of_ble_eq_true rfl, Nat.le_of_ble_eq_true rfl⟩ (Nat.le_of_ble_eq_true rfl) rfl [14] rfl (fun _ => rfl) rfl dX4_init_43 ?_
  intro v15 _
  dsimp only [jput, List.set_cons_zero, List.set_cons_succ, Option.toList, List.append, List.cons_append, List.nil_append, List.append_nil, List.append_assoc]
  refine J.qast g 1 5 14 6 6 rfl rfl rfl rfl (by decide) (by decide) dX4_init_46 ?_
  try dsimp only [List.set_cons_zero, List.set_cons_succ]
  refine J.iincN g 1 dX4_init_47 rfl rfl ?_
  try dsimp only [List.set_cons_zero, List.set_cons_succ]
  refine J.goto g dX4_init_50 (tgt := 25) (by decide) ?_
  refine J.iload_n g dX4_init_25 rfl rfl ?_
  refine J.aload_n g dX4_init_26 rfl rfl ?_
  refine J.get g jX4 0 (by decide) lf_X4_11 0 rfl rfl dX4_init_27 ?_
  refine J.alen (v := nI 8) g 1 5 rfl rfl rfl dX4_init_30 ?_
  refine J.icmp_geN g dX4_init_31 (tgt := 53) (by decide) (by omega) (by omega) (fun c_31 => absurd c_31 (by omega)) (fun c_31 => ?_)
  refine J.aload_n g dX4_init_34 rfl rfl ?_
  refine J.get g jX4 0 (by decide) lf_X4_11 0 rfl rfl dX4_init_35 ?_
  refine J.iload_n g dX4_init_38 rfl rfl ?_
  refine J.new g tyX6 dX4_init_39 jX6.1 jX6.2.1 jX6.2.2.1 jcl_X4_9 jis_X6 jit_X6 (fs := [.null, .int (nI 0)]) (fun j hj => by rcases (show j = 0 ∨ j = 1 by omega) with rfl | rfl <;> rfl) (Nat.le_of_ble_eq_true rfl) (Nat.le_of_ble_eq_true rfl) (fun q16 => ?_)
  try dsimp only [List.append, List.cons_append, List.nil_append, List.append_assoc]
  refine J.dup g dX4_init_42 rfl ?_
  refine J.callIN g (c_X6_init l γ _) jy_X6_init jnl_X4_24 rfl ⟨⟨Nat.le_of_ble_eq_true rfl, Nat.le_of_ble_eq_true rfl⟩, Nat.le_of_ble_eq_true rfl, Nat.le_of_ble_eq_true rfl⟩ (Nat.le_of_ble_eq_true rfl) rfl [16] rfl (fun _ => rfl) rfl dX4_init_43 ?_
  intro v17 _
  dsimp only [jput, List.set_cons_zero, List.set_cons_succ, Option.toList, List.append, List.cons_append, List.nil_append, List.append_nil, List.append_assoc]
  refine J.qast g 1 5 16 6 7 rfl rfl rfl rfl (by decide) (by decide) dX4_init_46 ?_
  try dsimp only [List.set_cons_zero, List.set_cons_succ]
  refine J.iincN g 1 dX4_init_47 rfl rfl ?_
  try dsimp only [List.set_cons_zero, List.set_cons_succ]
  refine J.goto g dX4_init_50 (tgt := 25) (by decide) ?_
  refine J.iload_n g dX4_init_25 rfl rfl ?_
  refine J.aload_n g dX4_init_26 rfl rfl ?_
  refine J.get g jX4 0 (by decide) lf_X4_11 0 rfl rfl dX4_init_27 ?_
  refine J.alen (v := nI 8) g 1 5 rfl rfl rfl dX4_init_30 ?_
  refine J.icmp_geN g dX4_init_31 (tgt := 53) (by decide) (by omega) (by omega) (fun c_31 => ?_) (fun c_31 => absurd c_31 (by omega))
  refine J.qcong (f' := fun i => some ((fun i => [q1, q2, v3, q4, v5, q6, v7, q8, v9, q10, v11, q12, v13, q14, v15, q16, v17].getD i 0) (1 + 2 * i))) 1 rfl (fun i hi => by rcases (show i = 0 ∨ i = 1 ∨ i = 2 ∨ i = 3 ∨ i = 4 ∨ i = 5 ∨ i = 6 ∨ i = 7 by omega) with rfl | rfl | rfl | rfl | rfl | rfl | rfl | rfl <;> rfl) ?_
  try dsimp only [List.set_cons_zero, List.set_cons_succ]
  exact J.vret g hE (fun i => [q1, q2, v3, q4, v5, q6, v7, q8, v9, q10, v11, q12, v13, q14, v15, q16, v17].getD i 0) rfl trivial rfl ⟨Nat.le_of_ble_eq_true rfl, Nat.le_of_ble_eq_true rfl⟩ dX4_init_53
set_option maxHeartbeats 4000000 in
set_option maxRecDepth 100000 in
theorem c_X8_init (l : Launch) (γ : jγ) (sr : Nat)  : jM (S := Nat → Nat) l γ yX8_init cX8_init 1 none ({ frames := 1, cells := 28, slots := 507, locals := 20 } : Room) [.ref sr] [(sr, .inr (8, [.null, .null, .int (nI 0)]))] (fun u => none) (fun u => [(sr, .inr (8, [.ref (u 0), .ref (u 14), .int (nI 0)])), ((u 0), .inl (γ.2 4, 13, .inr (.inr (.inr (.inr (fun i => some (u (1 + i)))))))), ((u 1), .inl (γ.2 0, 13, .inl (fun j => nI ((fun _ => 0) j)))), ((u 2), .inl (γ.2 0, 13, .inl (fun j => nI ((fun _ => 0) j)))), ((u 3), .inl (γ.2 0, 13, .inl (fun j => nI ((fun _ => 0) j)))), ((u 4), .inl (γ.2 0, 13, .inl (fun j => nI ((fun _ => 0) j)))), ((u 5), .inl (γ.2 0, 13, .inl (fun j => nI ((fun _ => 0) j)))), ((u 6), .inl (γ.2 0, 13, .inl (fun j => nI ((fun _ => 0) j)))), ((u 7), .inl (γ.2 0, 13, .inl (fun j => nI ((fun _ => 0) j)))), ((u 8), .inl (γ.2 0, 13, .inl (fun j => nI ((fun _ => 0) j)))), ((u 9), .inl (γ.2 0, 13, .inl (fun j => nI ((fun _ => 0) j)))), ((u 10), .inl (γ.2 0, 13, .inl (fun j => nI ((fun _ => 0) j)))), ((u 11), .inl (γ.2 0, 13, .inl (fun j => nI ((fun _ => 0) j)))), ((u 12), .inl (γ.2 0, 13, .inl (fun j => nI ((fun _ => 0) j)))), ((u 13), .inl (γ.2 0, 13, .inl (fun j => nI ((fun _ => 0) j)))), ((u 14), .inl (γ.2 4, 13, .inr (.inr (.inr (.inr (fun i => some (u (15 + i)))))))), ((u 15), .inl (γ.2 0, 24, .inl (fun j => nI ((fun _ => 0) j)))), ((u 16), .inl (γ.2 0, 24, .inl (fun j => nI ((fun _ => 0) j)))), ((u 17), .inl (γ.2 0, 24, .inl (fun j => nI ((fun _ => 0) j)))), ((u 18), .inl (γ.2 0, 24, .inl (fun j => nI ((fun _ => 0) j)))), ((u 19), .inl (γ.2 0, 24, .inl (fun j => nI ((fun _ => 0) j)))), ((u 20), .inl (γ.2 0, 24, .inl (fun j => nI ((fun _ => 0) j)))), ((u 21), .inl (γ.2 0, 24, .inl (fun j => nI ((fun _ => 0) j)))), ((u 22), .inl (γ.2 0, 24, .inl (fun j => nI ((fun _ => 0) j)))), ((u 23), .inl (γ.2 0, 24, .inl (fun j => nI ((fun _ => 0) j)))), ((u 24), .inl (γ.2 0, 24, .inl (fun j => nI ((fun _ => 0) j)))), ((u 25), .inl (γ.2 0, 24, .inl (fun j => nI ((fun _ => 0) j)))), ((u 26), .inl (γ.2 0, 24, .inl (fun j => nI ((fun _ => 0) j)))), ((u 27), .inl (γ.2 0, 24, .inl (fun j => nI ((fun _ => 0) j))))]) (fun u => True) := by
  refine jM.of [some (.ref sr)] rfl (Nat.le_of_ble_eq_true rfl) (by decide) ?_
  intro x g hE hin
  refine J.aload_n g dX8_init_0 rfl rfl ?_
  refine J.objInit g dX8_init_1 loi_X8 joi_i joi_c (Nat.le_of_ble_eq_true rfl) ⟨Nat.le_of_ble_eq_true rfl, Nat.le_of_ble_eq_true rfl⟩ ?_
  refine J.aload_n g dX8_init_4 rfl rfl ?_
  refine J.bipush (v := nI 13) g dX8_init_5 (by decide +kernel) ?_
  refine J.bipush (v := nI 13) g dX8_init_7 (by decide +kernel) ?_
  refine J.multi g (N := 13) (M := 13) dX8_init_9 jcl_X8_9 (by decide) (by decide) (Nat.le_of_ble_eq_true rfl) (Nat.le_of_ble_eq_true rfl) (fun q1 ad1 => ?_)
  try dsimp only [List.append, List.cons_append, List.nil_append, List.append_assoc]
  refine J.putF g jX8 0 (by decide) lf_X8_11 0 rfl rfl hin rfl (Nat.le_of_ble_eq_true rfl) rfl rfl dX8_init_13 ?_
  try dsimp only [List.set_cons_zero, List.set_cons_succ]
  refine J.aload_n g dX8_init_16 rfl rfl ?_
  refine J.bipush (v := nI 13) g dX8_init_17 (by decide +kernel) ?_
  refine J.bipush (v := nI 24) g dX8_init_19 (by decide +kernel) ?_
  refine J.multi g (N := 13) (M := 24) dX8_init_21 jcl_X8_9 (by decide) (by decide) (Nat.le_of_ble_eq_true rfl) (Nat.le_of_ble_eq_true rfl) (fun q2 ad2 => ?_)
  try dsimp only [List.append, List.cons_append, List.nil_append, List.append_assoc]
  refine J.putF g jX8 1 (by decide) lf_X8_16 0 rfl rfl hin rfl (Nat.le_of_ble_eq_true rfl) rfl rfl dX8_init_25 ?_
  try dsimp only [List.set_cons_zero, List.set_cons_succ]
  refine J.aload_n g dX8_init_28 rfl rfl ?_
  refine J.iconstN g 0 dX8_init_29 ?_
  refine J.put g jX8 2 (by decide) lf_X8_19 0 rfl rfl (Nat.le_of_ble_eq_true rfl) rfl rfl dX8_init_30 ?_
  try dsimp only [List.set_cons_zero, List.set_cons_succ]
  show J γ l x ((sr, _) :: (q1, _) :: jrows γ ad1 13 13 (fun _ _ => 0) ++ ((q2, _) :: jrows γ ad2 13 24 (fun _ _ => 0))) _ _ _ _ _
  refine J.qcong (f' := fun i => some ((fun i => [q1, (ad1 0), (ad1 1), (ad1 2), (ad1 3), (ad1 4), (ad1 5), (ad1 6), (ad1 7), (ad1 8), (ad1 9), (ad1 10), (ad1 11), (ad1 12), q2, (ad2 0), (ad2 1), (ad2 2), (ad2 3), (ad2 4), (ad2 5), (ad2 6), (ad2 7), (ad2 8), (ad2 9), (ad2 10), (ad2 11), (ad2 12)].getD i 0) (1 + i))) 1 rfl (fun i hi => by rcases (show i = 0 ∨ i = 1 ∨ i = 2 ∨ i = 3 ∨ i = 4 ∨ i = 5 ∨ i = 6 ∨ i = 7 ∨ i = 8 ∨ i = 9 ∨ i = 10 ∨ i = 11 ∨ i = 12 by omega) with rfl | rfl | rfl | rfl | rfl | rfl | rfl | rfl | rfl | rfl | rfl | rfl | rfl <;> rfl) ?_
  refine J.qcong (f' := fun i => some ((fun i => [q1, (ad1 0), (ad1 1), (ad1 2), (ad1 3), (ad1 4), (ad1 5), (ad1 6), (ad1 7), (ad1 8), (ad1 9), (ad1 10), (ad1 11), (ad1 12), q2, (ad2 0), (ad2 1), (ad2 2), (ad2 3), (ad2 4), (ad2 5), (ad2 6), (ad2 7), (ad2 8), (ad2 9), (ad2 10), (ad2 11), (ad2 12)].getD i 0) (15 + i))) 15 rfl (fun i hi => by rcases (show i = 0 ∨ i = 1 ∨ i = 2 ∨ i = 3 ∨ i = 4 ∨ i = 5 ∨ i = 6 ∨ i = 7 ∨ i = 8 ∨ i = 9 ∨ i = 10 ∨ i = 11 ∨ i = 12 by omega) with rfl | rfl | rfl | rfl | rfl | rfl | rfl | rfl | rfl | rfl | rfl | rfl | rfl <;> rfl) ?_
  exact J.vret g hE (fun i => [q1, (ad1 0), (ad1 1), (ad1 2), (ad1 3), (ad1 4), (ad1 5), (ad1 6), (ad1 7), (ad1 8), (ad1 9), (ad1 10), (ad1 11), (ad1 12), q2, (ad2 0), (ad2 1), (ad2 2), (ad2 3), (ad2 4), (ad2 5), (ad2 6), (ad2 7), (ad2 8), (ad2 9), (ad2 10), (ad2 11), (ad2 12)].getD i 0) rfl trivial rfl ⟨Nat.le_of_ble_eq_true rfl, Nat.le_of_ble_eq_true rfl⟩ dX8_init_33
