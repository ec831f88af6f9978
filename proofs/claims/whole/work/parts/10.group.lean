set_option maxHeartbeats 4000000 in
set_option maxRecDepth 100000 in
theorem c_X0_code (l : Launch) (γ : jγ) (gr mk ag cd pt od ex : Nat) (mf af : Nat → Nat)  : jM (S := Unit) l γ yX0_code cX0_code 1 (some .int) ({ frames := 0, cells := 0, slots := 0, locals := 0 } : Room) [.ref gr] [(gr, .inr (0, [.ref mk, .ref ag, .int (nI cd), .int (nI pt), .int (nI od), .int (nI ex)])), (mk, .inl (γ.2 1, 576, .inl (fun j => nI (mf j)))), (ag, .inl (γ.2 1, 24, .inl (fun j => nI (af j))))] (fun w0 => some (.int (nI cd))) (fun w0 => [(gr, .inr (0, [.ref mk, .ref ag, .int (nI cd), .int (nI pt), .int (nI od), .int (nI ex)])), (mk, .inl (γ.2 1, 576, .inl (fun j => nI (mf j)))), (ag, .inl (γ.2 1, 24, .inl (fun j => nI (af j))))]) (fun w0 => True) := by
  refine jM.of [some (.ref gr)] rfl (Nat.le_of_ble_eq_true rfl) (by decide) ?_
  intro x g hE hin
  refine J.aload_n g dX0_code_0 rfl rfl ?_
  refine J.get g jX0 2 (by decide) lf_X0_18 0 rfl rfl dX0_code_1 ?_
  exact J.iret g hE () rfl trivial rfl ⟨Nat.le_of_ble_eq_true rfl, Nat.le_of_ble_eq_true rfl⟩ dX0_code_4
set_option maxHeartbeats 4000000 in
set_option maxRecDepth 100000 in
theorem c_X0_parts (l : Launch) (γ : jγ) (gr mk ag cd pt od ex : Nat) (mf af : Nat → Nat)  : jM (S := Unit) l γ yX0_parts cX0_parts 1 (some .int) ({ frames := 0, cells := 0, slots := 0, locals := 0 } : Room) [.ref gr] [(gr, .inr (0, [.ref mk, .ref ag, .int (nI cd), .int (nI pt), .int (nI od), .int (nI ex)])), (mk, .inl (γ.2 1, 576, .inl (fun j => nI (mf j)))), (ag, .inl (γ.2 1, 24, .inl (fun j => nI (af j))))] (fun w0 => some (.int (nI pt))) (fun w0 => [(gr, .inr (0, [.ref mk, .ref ag, .int (nI cd), .int (nI pt), .int (nI od), .int (nI ex)])), (mk, .inl (γ.2 1, 576, .inl (fun j => nI (mf j)))), (ag, .inl (γ.2 1, 24, .inl (fun j => nI (af j))))]) (fun w0 => True) := by
  refine jM.of [some (.ref gr)] rfl (Nat.le_of_ble_eq_true rfl) (by decide) ?_
  intro x g hE hin
  refine J.aload_n g dX0_parts_0 rfl rfl ?_
  refine J.get g jX0 3 (by decide) lf_X0_22 0 rfl rfl dX0_parts_1 ?_
  exact J.iret g hE () rfl trivial rfl ⟨Nat.le_of_ble_eq_true rfl, Nat.le_of_ble_eq_true rfl⟩ dX0_parts_4
set_option maxHeartbeats 4000000 in
set_option maxRecDepth 100000 in
theorem c_X0_order (l : Launch) (γ : jγ) (gr mk ag cd pt od ex : Nat) (mf af : Nat → Nat)  : jM (S := Unit) l γ yX0_order cX0_order 1 (some .int) ({ frames := 0, cells := 0, slots := 0, locals := 0 } : Room) [.ref gr] [(gr, .inr (0, [.ref mk, .ref ag, .int (nI cd), .int (nI pt), .int (nI od), .int (nI ex)])), (mk, .inl (γ.2 1, 576, .inl (fun j => nI (mf j)))), (ag, .inl (γ.2 1, 24, .inl (fun j => nI (af j))))] (fun w0 => some (.int (nI od))) (fun w0 => [(gr, .inr (0, [.ref mk, .ref ag, .int (nI cd), .int (nI pt), .int (nI od), .int (nI ex)])), (mk, .inl (γ.2 1, 576, .inl (fun j => nI (mf j)))), (ag, .inl (γ.2 1, 24, .inl (fun j => nI (af j))))]) (fun w0 => True) := by
  refine jM.of [some (.ref gr)] rfl (Nat.le_of_ble_eq_true rfl) (by decide) ?_
  intro x g hE hin
  refine J.aload_n g dX0_order_0 rfl rfl ?_
  refine J.get g jX0 4 (by decide) lf_X0_25 0 rfl rfl dX0_order_1 ?_
  exact J.iret g hE () rfl trivial rfl ⟨Nat.le_of_ble_eq_true rfl, Nat.le_of_ble_eq_true rfl⟩ dX0_order_4
set_option maxHeartbeats 4000000 in
set_option maxRecDepth 100000 in
theorem c_X0_exponent (l : Launch) (γ : jγ) (gr mk ag cd pt od ex : Nat) (mf af : Nat → Nat)  : jM (S := Unit) l γ yX0_exponent cX0_exponent 1 (some .int) ({ frames := 0, cells := 0, slots := 0, locals := 0 } : Room) [.ref gr] [(gr, .inr (0, [.ref mk, .ref ag, .int (nI cd), .int (nI pt), .int (nI od), .int (nI ex)])), (mk, .inl (γ.2 1, 576, .inl (fun j => nI (mf j)))), (ag, .inl (γ.2 1, 24, .inl (fun j => nI (af j))))] (fun w0 => some (.int (nI ex))) (fun w0 => [(gr, .inr (0, [.ref mk, .ref ag, .int (nI cd), .int (nI pt), .int (nI od), .int (nI ex)])), (mk, .inl (γ.2 1, 576, .inl (fun j => nI (mf j)))), (ag, .inl (γ.2 1, 24, .inl (fun j => nI (af j))))]) (fun w0 => True) := by
  refine jM.of [some (.ref gr)] rfl (Nat.le_of_ble_eq_true rfl) (by decide) ?_
  intro x g hE hin
  refine J.aload_n g dX0_exponent_0 rfl rfl ?_
  refine J.get g jX0 5 (by decide) lf_X0_28 0 rfl rfl dX0_exponent_1 ?_
  exact J.iret g hE () rfl trivial rfl ⟨Nat.le_of_ble_eq_true rfl, Nat.le_of_ble_eq_true rfl⟩ dX0_exponent_4
set_option maxHeartbeats 4000000 in
set_option maxRecDepth 100000 in
theorem c_X0_codeWith (l : Launch) (γ : jγ) (cd i sz : Nat) (hi : i < 3) (hs : sz < 32) : jM (S := Unit) l γ yX0_codeWith cX0_codeWith 3 (some .int) ({ frames := 0, cells := 0, slots := 0, locals := 0 } : Room) [.int (nI cd), .int (nI i), .int (nI sz)] [] (fun w0 => some (.int (nI (cd ||| sz <<< (5 * i))))) (fun w0 => []) (fun w0 => True) := by
  refine jM.of [some (.int (nI cd)), some (.int (nI i)), some (.int (nI sz))] rfl (Nat.le_of_ble_eq_true rfl) (by decide) ?_
  intro x g hE hin
  refine J.iload_n g dX0_codeWith_0 rfl rfl ?_
  refine J.iload_n g dX0_codeWith_1 rfl rfl ?_
  refine J.iconstN g 5 dX0_codeWith_2 ?_
  refine J.iload_n g dX0_codeWith_3 rfl rfl ?_
  refine J.imulN g dX0_codeWith_4 ?_
  refine J.ishl' g dX0_codeWith_5 (j_shl (by omega) (by have : 2 ^ (5 * i) ≤ 2 ^ 10 := Nat.pow_le_pow_right (by omega) (by omega); have : sz * 2 ^ (5 * i) ≤ 32 * 2 ^ 10 := Nat.mul_le_mul (by omega) this; omega)) ?_
  refine J.ior' g dX0_codeWith_6 (j_or _ _) ?_
  exact J.iret g hE () rfl trivial rfl ⟨Nat.le_of_ble_eq_true rfl, Nat.le_of_ble_eq_true rfl⟩ dX0_codeWith_7
set_option maxHeartbeats 4000000 in
set_option maxRecDepth 100000 in
theorem c_X0_sizeIn (l : Launch) (γ : jγ) (cd i : Nat) (hc : cd < 2 ^ 31) (hi : i < 6) : jM (S := Unit) l γ yX0_sizeIn cX0_sizeIn 2 (some .int) ({ frames := 0, cells := 0, slots := 0, locals := 0 } : Room) [.int (nI cd), .int (nI i)] [] (fun w0 => some (.int (nI ((cd >>> (5 * i)) &&& 31)))) (fun w0 => []) (fun w0 => True) := by
  refine jM.of [some (.int (nI cd)), some (.int (nI i))] rfl (Nat.le_of_ble_eq_true rfl) (by decide) ?_
  intro x g hE hin
  refine J.iload_n g dX0_sizeIn_0 rfl rfl ?_
  refine J.iconstN g 5 dX0_sizeIn_1 ?_
  refine J.iload_n g dX0_sizeIn_2 rfl rfl ?_
  refine J.imulN g dX0_sizeIn_3 ?_
  refine J.iushr g dX0_sizeIn_4 (j_ushr (by omega) (by omega)) ?_
  refine J.bipush (v := nI 31) g dX0_sizeIn_5 (by decide +kernel) ?_
  refine J.iand' g dX0_sizeIn_7 (j_and _ _) ?_
  exact J.iret g hE () rfl trivial rfl ⟨Nat.le_of_ble_eq_true rfl, Nat.le_of_ble_eq_true rfl⟩ dX0_sizeIn_8
set_option maxHeartbeats 4000000 in
set_option maxRecDepth 100000 in
theorem c_X0_sizeOf (l : Launch) (γ : jγ) (gr mk ag cd pt od ex : Nat) (mf af : Nat → Nat) (i : Nat) (hc : cd < 2 ^ 31) (hi : i < 6) : jM (S := Unit) l γ yX0_sizeOf cX0_sizeOf 2 (some .int) ({ frames := 1, cells := 0, slots := 0, locals := 21 } : Room) [.ref gr, .int (nI i)] [(gr, .inr (0, [.ref mk, .ref ag, .int (nI cd), .int (nI pt), .int (nI od), .int (nI ex)])), (mk, .inl (γ.2 1, 576, .inl (fun j => nI (mf j)))), (ag, .inl (γ.2 1, 24, .inl (fun j => nI (af j))))] (fun w0 => some (.int (nI ((cd >>> (5 * i)) &&& 31)))) (fun w0 => [(gr, .inr (0, [.ref mk, .ref ag, .int (nI cd), .int (nI pt), .int (nI od), .int (nI ex)])), (mk, .inl (γ.2 1, 576, .inl (fun j => nI (mf j)))), (ag, .inl (γ.2 1, 24, .inl (fun j => nI (af j))))]) (fun w0 => True) := by
  refine jM.of [some (.ref gr), some (.int (nI i))] rfl (Nat.le_of_ble_eq_true rfl) (by decide) ?_
  intro x g hE hin
  refine J.aload_n g dX0_sizeOf_0 rfl rfl ?_
  refine J.get g jX0 2 (by decide) lf_X0_18 0 rfl rfl dX0_sizeOf_1 ?_
  refine J.iload_n g dX0_sizeOf_4 rfl rfl ?_
  refine J.callS0 g (c_X0_sizeIn l γ _ _ (by omega) (by omega)) jy_X0_sizeIn lm_X0_31 ⟨⟨Nat.le_of_ble_eq_true rfl, Nat.le_of_ble_eq_true rfl⟩, Nat.le_of_ble_eq_true rfl, Nat.le_of_ble_eq_true rfl⟩ (Nat.le_of_ble_eq_true rfl) rfl [] rfl rfl dX0_sizeOf_5 ?_
  intro _ _
  dsimp only [jpush]
  exact J.iret g hE () rfl trivial rfl ⟨Nat.le_of_ble_eq_true rfl, Nat.le_of_ble_eq_true rfl⟩ dX0_sizeOf_8
set_option maxHeartbeats 4000000 in
set_option maxRecDepth 100000 in
theorem c_X0_has (l : Launch) (γ : jγ) (gr mk ag cd pt od ex : Nat) (mf af : Nat → Nat) (i : Int32) (ho : od ≤ 24) : jM (S := Unit) l γ yX0_has cX0_has 2 (some .boolean) ({ frames := 0, cells := 0, slots := 0, locals := 0 } : Room) [.ref gr, .int i] [(gr, .inr (0, [.ref mk, .ref ag, .int (nI cd), .int (nI pt), .int (nI od), .int (nI ex)])), (mk, .inl (γ.2 1, 576, .inl (fun j => nI (mf j)))), (ag, .inl (γ.2 1, 24, .inl (fun j => nI (af j))))] (fun w0 => some (.int (jB (jhas i od)))) (fun w0 => [(gr, .inr (0, [.ref mk, .ref ag, .int (nI cd), .int (nI pt), .int (nI od), .int (nI ex)])), (mk, .inl (γ.2 1, 576, .inl (fun j => nI (mf j)))), (ag, .inl (γ.2 1, 24, .inl (fun j => nI (af j))))]) (fun w0 => True) := by
  refine jM.of [some (.ref gr), some (.int i)] rfl (Nat.le_of_ble_eq_true rfl) (by decide) ?_
  intro x g hE hin
  refine J.iload_n g dX0_has_0 rfl rfl ?_
  refine J.if_lt g dX0_has_1 (tgt := 22) (by decide) (fun c_1 => ?_) (fun c_1 => ?_)
  · refine J.iconstN g 0 dX0_has_22 ?_
    exact J.zret (by first | rfl | exact j_nz _) g hE () (jB_f (by simp (disch := omega) only [jhas, decide_eq_true_eq, decide_eq_false_iff_not, Int32.lt_iff_toInt_lt, Int32.le_iff_toInt_le, Int32.toInt_zero, nI_toInt] at *; omega)) trivial rfl ⟨Nat.le_of_ble_eq_true rfl, Nat.le_of_ble_eq_true rfl⟩ dX0_has_23
  · refine J.iload_n g dX0_has_4 rfl rfl ?_
    refine J.aload_n g dX0_has_5 rfl rfl ?_
    refine J.get g jX0 4 (by decide) lf_X0_25 0 rfl rfl dX0_has_6 ?_
    refine J.icmp_ge g dX0_has_9 (tgt := 22) (by decide) (fun c_9 => ?_) (fun c_9 => ?_)
    · refine J.iconstN g 0 dX0_has_22 ?_
      exact J.zret (by first | rfl | exact j_nz _) g hE () (jB_f (by simp (disch := omega) only [jhas, decide_eq_true_eq, decide_eq_false_iff_not, Int32.lt_iff_toInt_lt, Int32.le_iff_toInt_le, Int32.toInt_zero, nI_toInt] at *; omega)) trivial rfl ⟨Nat.le_of_ble_eq_true rfl, Nat.le_of_ble_eq_true rfl⟩ dX0_has_23
    · refine J.iload_n g dX0_has_12 rfl rfl ?_
      refine J.bipush (v := nI 24) g dX0_has_13 (by decide +kernel) ?_
      refine J.icmp_ge g dX0_has_15 (tgt := 22) (by decide) (fun c_15 => ?_) (fun c_15 => ?_)
      · refine J.iconstN g 0 dX0_has_22 ?_
        exact J.zret (by first | rfl | exact j_nz _) g hE () (jB_f (by simp (disch := omega) only [jhas, decide_eq_true_eq, decide_eq_false_iff_not, Int32.lt_iff_toInt_lt, Int32.le_iff_toInt_le, Int32.toInt_zero, nI_toInt] at *; omega)) trivial rfl ⟨Nat.le_of_ble_eq_true rfl, Nat.le_of_ble_eq_true rfl⟩ dX0_has_23
      · refine J.iconstN g 1 dX0_has_18 ?_
        refine J.goto g dX0_has_19 (tgt := 23) (by decide) ?_
        exact J.zret (by first | rfl | exact j_nz _) g hE () (jB_t (by simp (disch := omega) only [jhas, decide_eq_true_eq, decide_eq_false_iff_not, Int32.lt_iff_toInt_lt, Int32.le_iff_toInt_le, Int32.toInt_zero, nI_toInt] at *; omega)) trivial rfl ⟨Nat.le_of_ble_eq_true rfl, Nat.le_of_ble_eq_true rfl⟩ dX0_has_23
set_option maxHeartbeats 4000000 in
set_option maxRecDepth 100000 in
theorem c_X0_has_n (l : Launch) (γ : jγ) (gr mk ag cd pt od ex : Nat) (mf af : Nat → Nat) (i : Nat) (ho : od ≤ 24) (hi : i < 2 ^ 31) : jM (S := Unit) l γ yX0_has cX0_has 2 (some .boolean) ({ frames := 0, cells := 0, slots := 0, locals := 0 } : Room) [.ref gr, .int (nI i)] [(gr, .inr (0, [.ref mk, .ref ag, .int (nI cd), .int (nI pt), .int (nI od), .int (nI ex)])), (mk, .inl (γ.2 1, 576, .inl (fun j => nI (mf j)))), (ag, .inl (γ.2 1, 24, .inl (fun j => nI (af j))))] (fun w0 => some (.int (jB (decide (i < od))))) (fun w0 => [(gr, .inr (0, [.ref mk, .ref ag, .int (nI cd), .int (nI pt), .int (nI od), .int (nI ex)])), (mk, .inl (γ.2 1, 576, .inl (fun j => nI (mf j)))), (ag, .inl (γ.2 1, 24, .inl (fun j => nI (af j))))]) (fun w0 => True) := by
  refine jM.of [some (.ref gr), some (.int (nI i))] rfl (Nat.le_of_ble_eq_true rfl) (by decide) ?_
  intro x g hE hin
  refine J.iload_n g dX0_has_0 rfl rfl ?_
  refine J.if_ltN g dX0_has_1 (tgt := 22) (by decide) (by omega) ?_
  refine J.iload_n g dX0_has_4 rfl rfl ?_
  refine J.aload_n g dX0_has_5 rfl rfl ?_
  refine J.get g jX0 4 (by decide) lf_X0_25 0 rfl rfl dX0_has_6 ?_
  refine J.icmp_geN g dX0_has_9 (tgt := 22) (by decide) (by omega) (by omega) (fun c_9 => ?_) (fun c_9 => ?_)
  · refine J.iconstN g 0 dX0_has_22 ?_
    exact J.zret (by first | rfl | exact j_nz _) g hE () (jB_f (by simp (disch := omega) only [jhas, decide_eq_true_eq, decide_eq_false_iff_not, Int32.lt_iff_toInt_lt, Int32.le_iff_toInt_le, Int32.toInt_zero, nI_toInt] at *; omega)) trivial rfl ⟨Nat.le_of_ble_eq_true rfl, Nat.le_of_ble_eq_true rfl⟩ dX0_has_23
  · refine J.iload_n g dX0_has_12 rfl rfl ?_
    refine J.bipush (v := nI 24) g dX0_has_13 (by decide +kernel) ?_
    refine J.icmp_geN g dX0_has_15 (tgt := 22) (by decide) (by omega) (by omega) (fun c_15 => ?_) (fun c_15 => ?_)
    · refine J.iconstN g 0 dX0_has_22 ?_
      exact J.zret (by first | rfl | exact j_nz _) g hE () (jB_f (by simp (disch := omega) only [jhas, decide_eq_true_eq, decide_eq_false_iff_not, Int32.lt_iff_toInt_lt, Int32.le_iff_toInt_le, Int32.toInt_zero, nI_toInt] at *; omega)) trivial rfl ⟨Nat.le_of_ble_eq_true rfl, Nat.le_of_ble_eq_true rfl⟩ dX0_has_23
    · refine J.iconstN g 1 dX0_has_18 ?_
      refine J.goto g dX0_has_19 (tgt := 23) (by decide) ?_
      exact J.zret (by first | rfl | exact j_nz _) g hE () (jB_t (by simp (disch := omega) only [jhas, decide_eq_true_eq, decide_eq_false_iff_not, Int32.lt_iff_toInt_lt, Int32.le_iff_toInt_le, Int32.toInt_zero, nI_toInt] at *; omega)) trivial rfl ⟨Nat.le_of_ble_eq_true rfl, Nat.le_of_ble_eq_true rfl⟩ dX0_has_23
set_option maxHeartbeats 4000000 in
set_option maxRecDepth 100000 in
theorem c_X0_plus (l : Launch) (γ : jγ) (gr mk ag cd pt od ex : Nat) (mf af : Nat → Nat) (a b : Nat) (hT : jtab od mf af) (ha : a < 2 ^ 31) (hb : b < 2 ^ 31) : jM (S := Unit) l γ yX0_plus cX0_plus 3 (some .int) ({ frames := 1, cells := 0, slots := 0, locals := 21 } : Room) [.ref gr, .int (nI a), .int (nI b)] [(gr, .inr (0, [.ref mk, .ref ag, .int (nI cd), .int (nI pt), .int (nI od), .int (nI ex)])), (mk, .inl (γ.2 1, 576, .inl (fun j => nI (mf j)))), (ag, .inl (γ.2 1, 24, .inl (fun j => nI (af j))))] (fun w0 => some (.int (nI (jpl od mf a b)))) (fun w0 => [(gr, .inr (0, [.ref mk, .ref ag, .int (nI cd), .int (nI pt), .int (nI od), .int (nI ex)])), (mk, .inl (γ.2 1, 576, .inl (fun j => nI (mf j)))), (ag, .inl (γ.2 1, 24, .inl (fun j => nI (af j))))]) (fun w0 => True) := by
  refine jM.of [some (.ref gr), some (.int (nI a)), some (.int (nI b))] rfl (Nat.le_of_ble_eq_true rfl) (by decide) ?_
  intro x g hE hin
  refine J.aload_n g dX0_plus_0 rfl rfl ?_
  refine J.iload_n g dX0_plus_1 rfl rfl ?_
  refine J.callV0 g (c_X0_has_n l γ _ _ _ _ _ _ _ _ _ _ hT.1 ha) jy_X0_has lm_X0_48 (q0 := 0) rfl jX0.1 ⟨⟨Nat.le_of_ble_eq_true rfl, Nat.le_of_ble_eq_true rfl⟩, Nat.le_of_ble_eq_true rfl, Nat.le_of_ble_eq_true rfl⟩ (Nat.le_of_ble_eq_true rfl) rfl [0, 1, 2] rfl rfl dX0_plus_2 ?_
  intro _ _
  dsimp only [jpush]
  refine J.if_eqB g dX0_plus_5 (tgt := 30) (by decide) (fun c_5 => ?_) (fun c_5 => ?_)
  · refine J.iconstN g 0 dX0_plus_30 ?_
    exact J.iret g hE () (by first | exact jpl_t c_5 c_13 | exact jpl_f2 c_13 | exact jpl_f1 c_5) trivial rfl ⟨Nat.le_of_ble_eq_true rfl, Nat.le_of_ble_eq_true rfl⟩ dX0_plus_31
  · refine J.aload_n g dX0_plus_8 rfl rfl ?_
    refine J.iload_n g dX0_plus_9 rfl rfl ?_
    refine J.callV0 g (c_X0_has_n l γ _ _ _ _ _ _ _ _ _ _ hT.1 hb) jy_X0_has lm_X0_48 (q0 := 0) rfl jX0.1 ⟨⟨Nat.le_of_ble_eq_true rfl, Nat.le_of_ble_eq_true rfl⟩, Nat.le_of_ble_eq_true rfl, Nat.le_of_ble_eq_true rfl⟩ (Nat.le_of_ble_eq_true rfl) rfl [0, 1, 2] rfl rfl dX0_plus_10 ?_
    intro _ _
    dsimp only [jpush]
    refine J.if_eqB g dX0_plus_13 (tgt := 30) (by decide) (fun c_13 => ?_) (fun c_13 => ?_)
    · refine J.iconstN g 0 dX0_plus_30 ?_
      exact J.iret g hE () (by first | exact jpl_t c_5 c_13 | exact jpl_f2 c_13 | exact jpl_f1 c_5) trivial rfl ⟨Nat.le_of_ble_eq_true rfl, Nat.le_of_ble_eq_true rfl⟩ dX0_plus_31
    · have q1 := of_decide_eq_true c_5
      have q2 := of_decide_eq_true c_13
      have q3 := hT.1
      refine J.aload_n g dX0_plus_16 rfl rfl ?_
      refine J.get g jX0 0 (by decide) lf_X0_9 0 rfl rfl dX0_plus_17 ?_
      refine J.iload_n g dX0_plus_20 rfl rfl ?_
      refine J.bipush (v := nI 24) g dX0_plus_21 (by decide +kernel) ?_
      refine J.imulN g dX0_plus_23 ?_
      refine J.iload_n g dX0_plus_24 rfl rfl ?_
      refine J.iaddN g dX0_plus_25 ?_
      refine J.baldN g 1 rfl (by omega) (by decide) dX0_plus_26 ?_
      refine J.goto g dX0_plus_27 (tgt := 31) (by decide) ?_
      exact J.iret g hE () (by first | exact jpl_t c_5 c_13 | exact jpl_f2 c_13 | exact jpl_f1 c_5) trivial rfl ⟨Nat.le_of_ble_eq_true rfl, Nat.le_of_ble_eq_true rfl⟩ dX0_plus_31
set_option maxHeartbeats 4000000 in
set_option maxRecDepth 100000 in
theorem c_X0_opposite (l : Launch) (γ : jγ) (gr mk ag cd pt od ex : Nat) (mf af : Nat → Nat) (a : Nat) (hT : jtab od mf af) (ha : a < 2 ^ 31) : jM (S := Unit) l γ yX0_opposite cX0_opposite 2 (some .int) ({ frames := 1, cells := 0, slots := 0, locals := 21 } : Room) [.ref gr, .int (nI a)] [(gr, .inr (0, [.ref mk, .ref ag, .int (nI cd), .int (nI pt), .int (nI od), .int (nI ex)])), (mk, .inl (γ.2 1, 576, .inl (fun j => nI (mf j)))), (ag, .inl (γ.2 1, 24, .inl (fun j => nI (af j))))] (fun w0 => some (.int (nI (jop od af a)))) (fun w0 => [(gr, .inr (0, [.ref mk, .ref ag, .int (nI cd), .int (nI pt), .int (nI od), .int (nI ex)])), (mk, .inl (γ.2 1, 576, .inl (fun j => nI (mf j)))), (ag, .inl (γ.2 1, 24, .inl (fun j => nI (af j))))]) (fun w0 => True) := by
  refine jM.of [some (.ref gr), some (.int (nI a))] rfl (Nat.le_of_ble_eq_true rfl) (by decide) ?_
  intro x g hE hin
  refine J.aload_n g dX0_opposite_0 rfl rfl ?_
  refine J.iload_n g dX0_opposite_1 rfl rfl ?_
  refine J.callV0 g (c_X0_has_n l γ _ _ _ _ _ _ _ _ _ _ hT.1 ha) jy_X0_has lm_X0_48 (q0 := 0) rfl jX0.1 ⟨⟨Nat.le_of_ble_eq_true rfl, Nat.le_of_ble_eq_true rfl⟩, Nat.le_of_ble_eq_true rfl, Nat.le_of_ble_eq_true rfl⟩ (Nat.le_of_ble_eq_true rfl) rfl [0, 1, 2] rfl rfl dX0_opposite_2 ?_
  intro _ _
  dsimp only [jpush]
  refine J.if_eqB g dX0_opposite_5 (tgt := 17) (by decide) (fun c_5 => ?_) (fun c_5 => ?_)
  · refine J.iconstN g 0 dX0_opposite_17 ?_
    exact J.iret g hE () (by first | exact jop_t c_5 | exact jop_f c_5) trivial rfl ⟨Nat.le_of_ble_eq_true rfl, Nat.le_of_ble_eq_true rfl⟩ dX0_opposite_18
  · have q1 := of_decide_eq_true c_5
    have q3 := hT.1
    refine J.aload_n g dX0_opposite_8 rfl rfl ?_
    refine J.get g jX0 1 (by decide) lf_X0_15 0 rfl rfl dX0_opposite_9 ?_
    refine J.iload_n g dX0_opposite_12 rfl rfl ?_
    refine J.baldN g 2 rfl (by omega) (by decide) dX0_opposite_13 ?_
    refine J.goto g dX0_opposite_14 (tgt := 18) (by decide) ?_
    exact J.iret g hE () (by first | exact jop_t c_5 | exact jop_f c_5) trivial rfl ⟨Nat.le_of_ble_eq_true rfl, Nat.le_of_ble_eq_true rfl⟩ dX0_opposite_18
set_option maxHeartbeats 4000000 in
set_option maxRecDepth 100000 in
theorem c_X0_isIn (l : Launch) (γ : jγ) (s i : Nat) (hs : s < 2 ^ 31) (hi : i < 32) : jM (S := Unit) l γ yX0_isIn cX0_isIn 2 (some .boolean) ({ frames := 0, cells := 0, slots := 0, locals := 0 } : Room) [.int (nI s), .int (nI i)] [] (fun w0 => some (.int (jB (s.testBit i)))) (fun w0 => []) (fun w0 => True) := by
  refine jM.of [some (.int (nI s)), some (.int (nI i))] rfl (Nat.le_of_ble_eq_true rfl) (by decide) ?_
  intro x g hE hin
  refine J.iload_n g dX0_isIn_0 rfl rfl ?_
  refine J.iload_n g dX0_isIn_1 rfl rfl ?_
  refine J.iushr g dX0_isIn_2 (j_ushr (by omega) (by omega)) ?_
  refine J.iconstN g 1 dX0_isIn_3 ?_
  refine J.iand' g dX0_isIn_4 (j_and _ _) ?_
  refine J.if_eqN g dX0_isIn_5 (tgt := 12) (by decide) (by have := @Nat.and_le_right (s >>> i) 1; omega) (fun c_5 => ?_) (fun c_5 => ?_)
  · refine J.iconstN g 0 dX0_isIn_12 ?_
    exact J.zret (by first | rfl | exact j_nz _) g hE () (jB_f (by first | exact jtb0.mp c_5 | exact jtb1.mp c_5)) trivial rfl ⟨Nat.le_of_ble_eq_true rfl, Nat.le_of_ble_eq_true rfl⟩ dX0_isIn_13
  · refine J.iconstN g 1 dX0_isIn_8 ?_
    refine J.goto g dX0_isIn_9 (tgt := 13) (by decide) ?_
    exact J.zret (by first | rfl | exact j_nz _) g hE () (jB_t (by first | exact jtb0.mp c_5 | exact jtb1.mp c_5)) trivial rfl ⟨Nat.le_of_ble_eq_true rfl, Nat.le_of_ble_eq_true rfl⟩ dX0_isIn_13
set_option maxHeartbeats 4000000 in
set_option maxRecDepth 100000 in
theorem c_X0_multiple (l : Launch) (γ : jγ) (gr mk ag cd pt od ex : Nat) (mf af : Nat → Nat) (a u : Nat) (hT : jtab od mf af) (ha : a < 24) (hu : u < 2 ^ 30) : jM (S := Unit) l γ yX0_multiple cX0_multiple 5 (some .int) ({ frames := 2, cells := 0, slots := 0, locals := 43 } : Room) [.ref gr, .int (nI a), .int (nI u)] [(gr, .inr (0, [.ref mk, .ref ag, .int (nI cd), .int (nI pt), .int (nI od), .int (nI ex)])), (mk, .inl (γ.2 1, 576, .inl (fun j => nI (mf j)))), (ag, .inl (γ.2 1, 24, .inl (fun j => nI (af j))))] (fun w0 => some (.int (nI (jmul od mf a u)))) (fun w0 => [(gr, .inr (0, [.ref mk, .ref ag, .int (nI cd), .int (nI pt), .int (nI od), .int (nI ex)])), (mk, .inl (γ.2 1, 576, .inl (fun j => nI (mf j)))), (ag, .inl (γ.2 1, 24, .inl (fun j => nI (af j))))]) (fun w0 => True) := by
  refine jM.of [some (.ref gr), some (.int (nI a)), some (.int (nI u)), none, none] rfl (Nat.le_of_ble_eq_true rfl) (by decide) ?_
  intro x g hE hin
  refine J.iconstN g 0 dX0_multiple_0 ?_
  refine J.istore_n g dX0_multiple_1 rfl rfl rfl ?_
  try dsimp only [List.set_cons_zero, List.set_cons_succ]
  refine J.iconstN g 0 dX0_multiple_2 ?_
  refine J.istore g dX0_multiple_3 rfl rfl ?_
  try dsimp only [List.set_cons_zero, List.set_cons_succ]
  have lp : ∀ (d : Nat) (i : Nat), u - i < d → (i ≤ u) → J γ l x [(gr, .inr (0, [.ref mk, .ref ag, .int (nI cd), .int (nI pt), .int (nI od), .int (nI ex)])), (mk, .inl (γ.2 1, 576, .inl (fun j => nI (mf j)))), (ag, .inl (γ.2 1, 24, .inl (fun j => nI (af j))))] [some (.ref gr), some (.int (nI a)), some (.int (nI u)), some (.int (nI (jmul od mf a i))), some (.int (nI i))] [] 0 0 5 := by
    intro d
    induction d with
    | zero => intro i hm; exact absurd hm (Nat.not_lt_zero _)
    | succ d ih_lp =>
      intro i hm hi
      refine J.iload g dX0_multiple_5 rfl ?_
      refine J.iload_n g dX0_multiple_7 rfl rfl ?_
      refine J.icmp_geN g dX0_multiple_8 (tgt := 24) (by decide) (by omega) (by omega) (fun c_8 => ?_) (fun c_8 => ?_)
      · refine J.iload_n g dX0_multiple_24 rfl rfl ?_
        exact J.iret g hE () (by rw [show u = i by omega]) trivial rfl ⟨Nat.le_of_ble_eq_true rfl, Nat.le_of_ble_eq_true rfl⟩ dX0_multiple_25
      · refine J.aload_n g dX0_multiple_11 rfl rfl ?_
        refine J.iload_n g dX0_multiple_12 rfl rfl ?_
        refine J.iload_n g dX0_multiple_13 rfl rfl ?_
        refine J.callV0 g (c_X0_plus l γ _ _ _ _ _ _ _ _ _ _ _ hT (by have := jmul_24 hT a i; omega) (by omega)) jy_X0_plus lm_X0_52 (q0 := 0) rfl jX0.1 ⟨⟨Nat.le_of_ble_eq_true rfl, Nat.le_of_ble_eq_true rfl⟩, Nat.le_of_ble_eq_true rfl, Nat.le_of_ble_eq_true rfl⟩ (Nat.le_of_ble_eq_true rfl) rfl [0, 1, 2] rfl rfl dX0_multiple_14 ?_
        intro _ _
        dsimp only [jpush]
        refine J.istore_n g dX0_multiple_17 rfl rfl rfl ?_
        try dsimp only [List.set_cons_zero, List.set_cons_succ]
        refine J.iincN g 1 dX0_multiple_18 rfl rfl ?_
        try dsimp only [List.set_cons_zero, List.set_cons_succ]
        refine J.goto g dX0_multiple_21 (tgt := 5) (by decide) ?_
        exact J.lvle (jle_s (jle_s (jle_s (jle_s (jle_s jle_0))))) (ih_lp (i + 1) (by omega) (by omega))
  exact J.lvle (jle_s (jle_s (jle_s (jle_s (jle_s jle_0))))) (lp _ 0 (Nat.lt_succ_self _) (Nat.zero_le _))
set_option maxHeartbeats 4000000 in
set_option maxRecDepth 100000 in
theorem c_X0_isUnit (l : Launch) (γ : jγ) (gr mk ag cd pt od ex : Nat) (mf af : Nat → Nat) (u : Nat) (hu : u < 2 ^ 30) (he : ex < 2 ^ 30) : jM (S := Unit) l γ yX0_isUnit cX0_isUnit 3 (some .boolean) ({ frames := 0, cells := 0, slots := 0, locals := 0 } : Room) [.ref gr, .int (nI u)] [(gr, .inr (0, [.ref mk, .ref ag, .int (nI cd), .int (nI pt), .int (nI od), .int (nI ex)])), (mk, .inl (γ.2 1, 576, .inl (fun j => nI (mf j)))), (ag, .inl (γ.2 1, 24, .inl (fun j => nI (af j))))] (fun w0 => some (.int (jB (junit ex u)))) (fun w0 => [(gr, .inr (0, [.ref mk, .ref ag, .int (nI cd), .int (nI pt), .int (nI od), .int (nI ex)])), (mk, .inl (γ.2 1, 576, .inl (fun j => nI (mf j)))), (ag, .inl (γ.2 1, 24, .inl (fun j => nI (af j))))]) (fun w0 => True) := by
  refine jM.of [some (.ref gr), some (.int (nI u)), none] rfl (Nat.le_of_ble_eq_true rfl) (by decide) ?_
  intro x g hE hin
  refine J.iconstN g 2 dX0_isUnit_0 ?_
  refine J.istore_n g dX0_isUnit_1 rfl rfl rfl ?_
  try dsimp only [List.set_cons_zero, List.set_cons_succ]
  have lp : ∀ (d : Nat) (d1 : Nat), u + 1 - d1 < d → (2 ≤ d1) → (d1 ≤ u + 2) → (∀ k, k < d1 → 2 ≤ k → ¬ (u % k = 0 ∧ ex % k = 0)) → J γ l x [(gr, .inr (0, [.ref mk, .ref ag, .int (nI cd), .int (nI pt), .int (nI od), .int (nI ex)])), (mk, .inl (γ.2 1, 576, .inl (fun j => nI (mf j)))), (ag, .inl (γ.2 1, 24, .inl (fun j => nI (af j))))] [some (.ref gr), some (.int (nI u)), some (.int (nI d1))] [] 0 0 2 := by
    intro d
    induction d with
    | zero => intro d1 hm; exact absurd hm (Nat.not_lt_zero _)
    | succ d ih_lp =>
      intro d1 hm hi hb hh
      refine J.iload_n g dX0_isUnit_2 rfl rfl ?_
      refine J.iload_n g dX0_isUnit_3 rfl rfl ?_
      refine J.icmp_gtN g dX0_isUnit_4 (tgt := 30) (by decide) (by omega) (by omega) (fun c_4 => ?_) (fun c_4 => ?_)
      · refine J.iconstN g 1 dX0_isUnit_30 ?_
        exact J.zret (by first | rfl | exact j_nz _) g hE () (jB_t (by first | exact junit_f hi (by omega) c_10 c_19 | exact junit_t (fun k hk h2 => hh k (by omega) h2))) trivial rfl ⟨Nat.le_of_ble_eq_true rfl, Nat.le_of_ble_eq_true rfl⟩ dX0_isUnit_31
      · refine J.iload_n g dX0_isUnit_7 rfl rfl ?_
        refine J.iload_n g dX0_isUnit_8 rfl rfl ?_
        refine J.iremN g dX0_isUnit_9 (by omega) (by omega) (by omega) ?_
        refine J.if_neN g dX0_isUnit_10 (tgt := 24) (by decide) (by have := Nat.mod_lt u (show 0 < d1 by omega); omega) (fun c_10 => ?_) (fun c_10 => ?_)
        · refine J.iincN g 1 dX0_isUnit_24 rfl rfl ?_
          try dsimp only [List.set_cons_zero, List.set_cons_succ]
          refine J.goto g dX0_isUnit_27 (tgt := 2) (by decide) ?_
          exact J.lvle (jle_s (jle_s (jle_s jle_0))) (ih_lp (d1 + 1) (by omega) (by omega) (by omega) (lt_s hh (fun _ hz => by first | exact c_10 hz.1 | exact c_19 hz.2)))
        · refine J.aload_n g dX0_isUnit_13 rfl rfl ?_
          refine J.get g jX0 5 (by decide) lf_X0_28 0 rfl rfl dX0_isUnit_14 ?_
          refine J.iload_n g dX0_isUnit_17 rfl rfl ?_
          refine J.iremN g dX0_isUnit_18 (by omega) (by omega) (by omega) ?_
          refine J.if_neN g dX0_isUnit_19 (tgt := 24) (by decide) (by have := Nat.mod_lt ex (show 0 < d1 by omega); omega) (fun c_19 => ?_) (fun c_19 => ?_)
          · refine J.iincN g 1 dX0_isUnit_24 rfl rfl ?_
            try dsimp only [List.set_cons_zero, List.set_cons_succ]
            refine J.goto g dX0_isUnit_27 (tgt := 2) (by decide) ?_
            exact J.lvle (jle_s (jle_s (jle_s jle_0))) (ih_lp (d1 + 1) (by omega) (by omega) (by omega) (lt_s hh (fun _ hz => by first | exact c_10 hz.1 | exact c_19 hz.2)))
          · refine J.iconstN g 0 dX0_isUnit_22 ?_
            exact J.zret (by first | rfl | exact j_nz _) g hE () (jB_f (by first | exact junit_f hi (by omega) c_10 c_19 | exact junit_t (fun k hk h2 => hh k (by omega) h2))) trivial rfl ⟨Nat.le_of_ble_eq_true rfl, Nat.le_of_ble_eq_true rfl⟩ dX0_isUnit_23
  exact J.lvle (jle_s (jle_s (jle_s jle_0))) (lp _ 2 (Nat.lt_succ_self _) (Nat.le_refl _) (by omega) (fun k h1 h2 => absurd h1 (by omega)))
set_option maxHeartbeats 4000000 in
set_option maxRecDepth 100000 in
theorem c_X0_moved (l : Launch) (γ : jγ) (gr mk ag cd pt od ex : Nat) (mf af : Nat → Nat) (s a : Nat) (hT : jtab od mf af) (hs : s < 2 ^ 24) (ha : a < 24) : jM (S := Unit) l γ yX0_moved cX0_moved 5 (some .int) ({ frames := 2, cells := 0, slots := 0, locals := 43 } : Room) [.ref gr, .int (nI s), .int (nI a)] [(gr, .inr (0, [.ref mk, .ref ag, .int (nI cd), .int (nI pt), .int (nI od), .int (nI ex)])), (mk, .inl (γ.2 1, 576, .inl (fun j => nI (mf j)))), (ag, .inl (γ.2 1, 24, .inl (fun j => nI (af j))))] (fun w0 => some (.int (nI (jmoved od mf s a od)))) (fun w0 => [(gr, .inr (0, [.ref mk, .ref ag, .int (nI cd), .int (nI pt), .int (nI od), .int (nI ex)])), (mk, .inl (γ.2 1, 576, .inl (fun j => nI (mf j)))), (ag, .inl (γ.2 1, 24, .inl (fun j => nI (af j))))]) (fun w0 => True) := by
  refine jM.of [some (.ref gr), some (.int (nI s)), some (.int (nI a)), none, none] rfl (Nat.le_of_ble_eq_true rfl) (by decide) ?_
  intro x g hE hin
  have q3 := hT.1
  refine J.iload_n g dX0_moved_0 rfl rfl ?_
  refine J.if_neN g dX0_moved_1 (tgt := 6) (by decide) (by omega) (fun c_1 => ?_) (fun c_1 => ?_)
  · refine J.iconstN g 0 dX0_moved_6 ?_
    refine J.istore_n g dX0_moved_7 rfl rfl rfl ?_
    try dsimp only [List.set_cons_zero, List.set_cons_succ]
    refine J.iconstN g 0 dX0_moved_8 ?_
    refine J.istore g dX0_moved_9 rfl rfl ?_
    try dsimp only [List.set_cons_zero, List.set_cons_succ]
    have lp : ∀ (d : Nat) (i : Nat), od - i < d → (i ≤ od) → J γ l x [(gr, .inr (0, [.ref mk, .ref ag, .int (nI cd), .int (nI pt), .int (nI od), .int (nI ex)])), (mk, .inl (γ.2 1, 576, .inl (fun j => nI (mf j)))), (ag, .inl (γ.2 1, 24, .inl (fun j => nI (af j))))] [some (.ref gr), some (.int (nI s)), some (.int (nI a)), some (.int (nI (jmoved od mf s a i))), some (.int (nI i))] [] 0 0 11 := by
      intro d
      induction d with
      | zero => intro i hm; exact absurd hm (Nat.not_lt_zero _)
      | succ d ih_lp =>
        intro i hm hi
        refine J.iload g dX0_moved_11 rfl ?_
        refine J.aload_n g dX0_moved_13 rfl rfl ?_
        refine J.get g jX0 4 (by decide) lf_X0_25 0 rfl rfl dX0_moved_14 ?_
        refine J.icmp_geN g dX0_moved_17 (tgt := 47) (by decide) (by omega) (by omega) (fun c_17 => ?_) (fun c_17 => ?_)
        · refine J.iload_n g dX0_moved_47 rfl rfl ?_
          exact J.iret g hE () (by rw [show i = od by omega]) trivial rfl ⟨Nat.le_of_ble_eq_true rfl, Nat.le_of_ble_eq_true rfl⟩ dX0_moved_48
        · refine J.iload_n g dX0_moved_20 rfl rfl ?_
          refine J.iload g dX0_moved_21 rfl ?_
          refine J.callS0 g (c_X0_isIn l γ _ _ (by omega) (by omega)) jy_X0_isIn lm_X0_55 ⟨⟨Nat.le_of_ble_eq_true rfl, Nat.le_of_ble_eq_true rfl⟩, Nat.le_of_ble_eq_true rfl, Nat.le_of_ble_eq_true rfl⟩ (Nat.le_of_ble_eq_true rfl) rfl [] rfl rfl dX0_moved_23 ?_
          intro _ _
          dsimp only [jpush]
          refine J.if_eqB g dX0_moved_26 (tgt := 41) (by decide) (fun c_26 => ?_) (fun c_26 => ?_)
          · have hq : jmoved od mf s a (i + 1) = jmoved od mf s a i := by simp [jmoved, c_26]
            refine J.iincN g 1 dX0_moved_41 rfl rfl ?_
            try dsimp only [List.set_cons_zero, List.set_cons_succ]
            refine J.goto g dX0_moved_44 (tgt := 11) (by decide) ?_
            have ih2 := ih_lp (i + 1) (by omega) (by omega)
            rw [hq] at ih2
            exact J.lvle (jle_s (jle_s (jle_s (jle_s (jle_s jle_0))))) ih2
          · have hq : jmoved od mf s a (i + 1) = jmoved od mf s a i ||| 1 <<< jpl od mf i a := by simp [jmoved, c_26]
            refine J.iload_n g dX0_moved_29 rfl rfl ?_
            refine J.iconstN g 1 dX0_moved_30 ?_
            refine J.aload_n g dX0_moved_31 rfl rfl ?_
            refine J.iload g dX0_moved_32 rfl ?_
            refine J.iload_n g dX0_moved_34 rfl rfl ?_
            refine J.callV0 g (c_X0_plus l γ _ _ _ _ _ _ _ _ _ _ _ hT (by omega) (by omega)) jy_X0_plus lm_X0_52 (q0 := 0) rfl jX0.1 ⟨⟨Nat.le_of_ble_eq_true rfl, Nat.le_of_ble_eq_true rfl⟩, Nat.le_of_ble_eq_true rfl, Nat.le_of_ble_eq_true rfl⟩ (Nat.le_of_ble_eq_true rfl) rfl [0, 1, 2] rfl rfl dX0_moved_35 ?_
            intro _ _
            dsimp only [jpush]
            refine J.ishl' g dX0_moved_38 (j_shl1 (by have := jpl_24 hT i a; omega)) ?_
            refine J.ior' g dX0_moved_39 (j_or _ _) ?_
            refine J.istore_n g dX0_moved_40 rfl rfl rfl ?_
            try dsimp only [List.set_cons_zero, List.set_cons_succ]
            refine J.iincN g 1 dX0_moved_41 rfl rfl ?_
            try dsimp only [List.set_cons_zero, List.set_cons_succ]
            refine J.goto g dX0_moved_44 (tgt := 11) (by decide) ?_
            have ih2 := ih_lp (i + 1) (by omega) (by omega)
            rw [hq] at ih2
            exact J.lvle (jle_s (jle_s (jle_s (jle_s (jle_s jle_0))))) ih2
    exact J.lvle (jle_s (jle_s (jle_s (jle_s (jle_s jle_0))))) (lp _ 0 (Nat.lt_succ_self _) (Nat.zero_le _))
  · refine J.iconstN g 0 dX0_moved_4 ?_
    exact J.iret g hE () (by rw [c_1, jmoved_0]) trivial rfl ⟨Nat.le_of_ble_eq_true rfl, Nat.le_of_ble_eq_true rfl⟩ dX0_moved_5
set_option maxHeartbeats 4000000 in
set_option maxRecDepth 100000 in
theorem c_X0_withoutOppositesOf (l : Launch) (γ : jγ) (gr mk ag cd pt od ex : Nat) (mf af : Nat → Nat) (s : Nat) (hT : jtab od mf af) (hs : s < 2 ^ 24) : jM (S := Unit) l γ yX0_withoutOppositesOf cX0_withoutOppositesOf 4 (some .int) ({ frames := 2, cells := 0, slots := 0, locals := 42 } : Room) [.ref gr, .int (nI s)] [(gr, .inr (0, [.ref mk, .ref ag, .int (nI cd), .int (nI pt), .int (nI od), .int (nI ex)])), (mk, .inl (γ.2 1, 576, .inl (fun j => nI (mf j)))), (ag, .inl (γ.2 1, 24, .inl (fun j => nI (af j))))] (fun w0 => some (.int (nI (jwo od af s od)))) (fun w0 => [(gr, .inr (0, [.ref mk, .ref ag, .int (nI cd), .int (nI pt), .int (nI od), .int (nI ex)])), (mk, .inl (γ.2 1, 576, .inl (fun j => nI (mf j)))), (ag, .inl (γ.2 1, 24, .inl (fun j => nI (af j))))]) (fun w0 => True) := by
  refine jM.of [some (.ref gr), some (.int (nI s)), none, none] rfl (Nat.le_of_ble_eq_true rfl) (by decide) ?_
  intro x g hE hin
  have q3 := hT.1
  refine J.iconstN g 0 dX0_withoutOppositesOf_0 ?_
  refine J.istore_n g dX0_withoutOppositesOf_1 rfl rfl rfl ?_
  try dsimp only [List.set_cons_zero, List.set_cons_succ]
  refine J.iconstN g 1 dX0_withoutOppositesOf_2 ?_
  refine J.istore_n g dX0_withoutOppositesOf_3 rfl rfl rfl ?_
  try dsimp only [List.set_cons_zero, List.set_cons_succ]
  have lp : ∀ (d : Nat) (i : Nat), od - i < d → (1 ≤ i) → (i ≤ od ∨ i = 1) → J γ l x [(gr, .inr (0, [.ref mk, .ref ag, .int (nI cd), .int (nI pt), .int (nI od), .int (nI ex)])), (mk, .inl (γ.2 1, 576, .inl (fun j => nI (mf j)))), (ag, .inl (γ.2 1, 24, .inl (fun j => nI (af j))))] [some (.ref gr), some (.int (nI s)), some (.int (nI (jwo od af s i))), some (.int (nI i))] [] 0 0 4 := by
    intro d
    induction d with
    | zero => intro i hm; exact absurd hm (Nat.not_lt_zero _)
    | succ d ih_lp =>
      intro i hm h1 hi
      refine J.iload_n g dX0_withoutOppositesOf_4 rfl rfl ?_
      refine J.aload_n g dX0_withoutOppositesOf_5 rfl rfl ?_
      refine J.get g jX0 4 (by decide) lf_X0_25 0 rfl rfl dX0_withoutOppositesOf_6 ?_
      refine J.icmp_geN g dX0_withoutOppositesOf_9 (tgt := 36) (by decide) (by omega) (by omega) (fun c_9 => ?_) (fun c_9 => ?_)
      · refine J.iload_n g dX0_withoutOppositesOf_36 rfl rfl ?_
        exact J.iret g hE () (by rcases hi with z | z; (· rw [show i = od by omega]); (· subst z; rcases (show od = 0 ∨ od = 1 by omega) with z | z <;> subst z <;> rfl)) trivial rfl ⟨Nat.le_of_ble_eq_true rfl, Nat.le_of_ble_eq_true rfl⟩ dX0_withoutOppositesOf_37
      · refine J.iload_n g dX0_withoutOppositesOf_12 rfl rfl ?_
        refine J.aload_n g dX0_withoutOppositesOf_13 rfl rfl ?_
        refine J.iload_n g dX0_withoutOppositesOf_14 rfl rfl ?_
        refine J.callV0 g (c_X0_opposite l γ _ _ _ _ _ _ _ _ _ _ hT (by omega)) jy_X0_opposite lm_X0_59 (q0 := 0) rfl jX0.1 ⟨⟨Nat.le_of_ble_eq_true rfl, Nat.le_of_ble_eq_true rfl⟩, Nat.le_of_ble_eq_true rfl, Nat.le_of_ble_eq_true rfl⟩ (Nat.le_of_ble_eq_true rfl) rfl [0, 1, 2] rfl rfl dX0_withoutOppositesOf_15 ?_
        intro _ _
        dsimp only [jpush]
        refine J.callS0 g (c_X0_isIn l γ _ _ (by omega) (by have := jop_24 hT i; omega)) jy_X0_isIn lm_X0_55 ⟨⟨Nat.le_of_ble_eq_true rfl, Nat.le_of_ble_eq_true rfl⟩, Nat.le_of_ble_eq_true rfl, Nat.le_of_ble_eq_true rfl⟩ (Nat.le_of_ble_eq_true rfl) rfl [] rfl rfl dX0_withoutOppositesOf_18 ?_
        intro _ _
        dsimp only [jpush]
        refine J.if_neB g dX0_withoutOppositesOf_21 (tgt := 30) (by decide) (fun c_21 => ?_) (fun c_21 => ?_)
        · have hq : jwo od af s (i + 1) = jwo od af s i := by simp [jwo, c_21]
          refine J.iincN g 1 dX0_withoutOppositesOf_30 rfl rfl ?_
          try dsimp only [List.set_cons_zero, List.set_cons_succ]
          refine J.goto g dX0_withoutOppositesOf_33 (tgt := 4) (by decide) ?_
          have ih2 := ih_lp (i + 1) (by omega) (by omega) (by omega)
          rw [hq] at ih2
          exact J.lvle (jle_s (jle_s (jle_s (jle_s jle_0)))) ih2
        · have hq : jwo od af s (i + 1) = jwo od af s i ||| 1 <<< i := by simp [jwo, c_21, h1]
          refine J.iload_n g dX0_withoutOppositesOf_24 rfl rfl ?_
          refine J.iconstN g 1 dX0_withoutOppositesOf_25 ?_
          refine J.iload_n g dX0_withoutOppositesOf_26 rfl rfl ?_
          refine J.ishl' g dX0_withoutOppositesOf_27 (j_shl1 (by omega)) ?_
          refine J.ior' g dX0_withoutOppositesOf_28 (j_or _ _) ?_
          refine J.istore_n g dX0_withoutOppositesOf_29 rfl rfl rfl ?_
          try dsimp only [List.set_cons_zero, List.set_cons_succ]
          refine J.iincN g 1 dX0_withoutOppositesOf_30 rfl rfl ?_
          try dsimp only [List.set_cons_zero, List.set_cons_succ]
          refine J.goto g dX0_withoutOppositesOf_33 (tgt := 4) (by decide) ?_
          have ih2 := ih_lp (i + 1) (by omega) (by omega) (by omega)
          rw [hq] at ih2
          exact J.lvle (jle_s (jle_s (jle_s (jle_s jle_0)))) ih2
  exact J.lvle (jle_s (jle_s (jle_s (jle_s jle_0)))) (lp _ 1 (Nat.lt_succ_self _) (Nat.le_refl _) (Or.inr rfl))
set_option maxHeartbeats 4000000 in
set_option maxRecDepth 100000 in
theorem c_X0_plusByParts (l : Launch) (γ : jγ) (gr mk ag cd pt od ex : Nat) (mf af : Nat → Nat) (a b : Nat) (hc : cd < 2 ^ 31) (hp : pt ≤ 5) (hs : ∀ i, i < pt → 0 < gsz cd i) (ha : a < 2 ^ 31) (hb : b < 2 ^ 31) : jM (S := Unit) l γ yX0_plusByParts cX0_plusByParts 7 (some .int) ({ frames := 2, cells := 0, slots := 0, locals := 42 } : Room) [.ref gr, .int (nI a), .int (nI b)] [(gr, .inr (0, [.ref mk, .ref ag, .int (nI cd), .int (nI pt), .int (nI od), .int (nI ex)])), (mk, .inl (γ.2 1, 576, .inl (fun j => nI (mf j)))), (ag, .inl (γ.2 1, 24, .inl (fun j => nI (af j))))] (fun w0 => some (.int (nI (gpb cd pt a b 1 0)))) (fun w0 => [(gr, .inr (0, [.ref mk, .ref ag, .int (nI cd), .int (nI pt), .int (nI od), .int (nI ex)])), (mk, .inl (γ.2 1, 576, .inl (fun j => nI (mf j)))), (ag, .inl (γ.2 1, 24, .inl (fun j => nI (af j))))]) (fun w0 => True) := by
  refine jM.of [some (.ref gr), some (.int (nI a)), some (.int (nI b)), none, none, none, none] rfl (Nat.le_of_ble_eq_true rfl) (by decide) ?_
  intro x g hE hin
  refine J.iconstN g 0 dX0_plusByParts_0 ?_
  refine J.istore_n g dX0_plusByParts_1 rfl rfl rfl ?_
  try dsimp only [List.set_cons_zero, List.set_cons_succ]
  refine J.iconstN g 1 dX0_plusByParts_2 ?_
  refine J.istore g dX0_plusByParts_3 rfl rfl ?_
  try dsimp only [List.set_cons_zero, List.set_cons_succ]
  refine J.aload_n g dX0_plusByParts_5 rfl rfl ?_
  refine J.get g jX0 3 (by decide) lf_X0_22 0 rfl rfl dX0_plusByParts_6 ?_
  refine J.iconstN g 1 dX0_plusByParts_9 ?_
  refine J.isub' g dX0_plusByParts_10 (j_subm _) ?_
  refine J.istore g dX0_plusByParts_11 rfl rfl ?_
  try dsimp only [List.set_cons_zero, List.set_cons_succ]
  have lp : ∀ (k : Nat) (a1 b1 w r : Nat), (k ≤ pt) → (a1 < 2 ^ 31) → (b1 < 2 ^ 31) → (gpb cd pt a b 1 0 = gpb cd k a1 b1 w r) → J γ l x [(gr, .inr (0, [.ref mk, .ref ag, .int (nI cd), .int (nI pt), .int (nI od), .int (nI ex)])), (mk, .inl (γ.2 1, 576, .inl (fun j => nI (mf j)))), (ag, .inl (γ.2 1, 24, .inl (fun j => nI (af j))))] [some (.ref gr), some (.int (nI a1)), some (.int (nI b1)), some (.int (nI r)), some (.int (nI w)), some (.int (jm1 k)), none] [] 0 0 13 := by
    intro k
    induction k with
    | zero =>
      intro a1 b1 w r hk ha1 hb1 hr
      rw [jm1_0]
      have hz : True := trivial
      have hq := gsz_lt cd 0
      refine J.iload g dX0_plusByParts_13 rfl ?_
      refine J.if_lt g dX0_plusByParts_15 (tgt := 72) (by decide) (fun _ => ?_) (fun q => absurd (by decide) q)
      refine J.iload_n g dX0_plusByParts_72 rfl rfl ?_
      exact J.iret g hE () (by rw [hr]; rfl) trivial rfl ⟨Nat.le_of_ble_eq_true rfl, Nat.le_of_ble_eq_true rfl⟩ dX0_plusByParts_73
    | succ k ih_lp =>
      intro a1 b1 w r hk ha1 hb1 hr
      rw [jm1_s]
      have hz : 0 < gsz cd k := hs k (by omega)
      have hq := gsz_lt cd 0
      refine J.iload g dX0_plusByParts_13 rfl ?_
      refine J.if_ltN g dX0_plusByParts_15 (tgt := 72) (by decide) (by omega) ?_
      refine J.aload_n g dX0_plusByParts_18 rfl rfl ?_
      refine J.iload g dX0_plusByParts_19 rfl ?_
      refine J.callV0 g (c_X0_sizeOf l γ _ _ _ _ _ _ _ _ _ _ hc (by omega)) jy_X0_sizeOf lm_X0_35 (q0 := 0) rfl jX0.1 ⟨⟨Nat.le_of_ble_eq_true rfl, Nat.le_of_ble_eq_true rfl⟩, Nat.le_of_ble_eq_true rfl, Nat.le_of_ble_eq_true rfl⟩ (Nat.le_of_ble_eq_true rfl) rfl [0, 1, 2] rfl rfl dX0_plusByParts_21 ?_
      intro _ _
      dsimp only [jpush]
      have hq := gsz_lt cd k
      rw [gsz_eq]
      refine J.istore g dX0_plusByParts_24 rfl rfl ?_
      try dsimp only [List.set_cons_zero, List.set_cons_succ]
      refine J.iload g dX0_plusByParts_26 rfl ?_
      refine J.if_leN g dX0_plusByParts_28 (tgt := 66) (by decide) (by have := gsz_lt cd k; omega) (fun c_28 => absurd c_28 (by omega)) (fun c_28 => ?_)
      refine J.iload_n g dX0_plusByParts_31 rfl rfl ?_
      refine J.iload g dX0_plusByParts_32 rfl ?_
      refine J.iload_n g dX0_plusByParts_34 rfl rfl ?_
      refine J.iload g dX0_plusByParts_35 rfl ?_
      refine J.iremN g dX0_plusByParts_37 (by omega) hz (by omega) ?_
      refine J.iload_n g dX0_plusByParts_38 rfl rfl ?_
      refine J.iload g dX0_plusByParts_39 rfl ?_
      refine J.iremN g dX0_plusByParts_41 (by omega) hz (by omega) ?_
      refine J.iaddN g dX0_plusByParts_42 ?_
      refine J.iload g dX0_plusByParts_43 rfl ?_
      refine J.iremN g dX0_plusByParts_45 (by have := Nat.mod_lt a1 hz; have := Nat.mod_lt b1 hz; omega) hz (by omega) ?_
      refine J.imulN g dX0_plusByParts_46 ?_
      refine J.iaddN g dX0_plusByParts_47 ?_
      refine J.istore_n g dX0_plusByParts_48 rfl rfl rfl ?_
      try dsimp only [List.set_cons_zero, List.set_cons_succ]
      refine J.iload g dX0_plusByParts_49 rfl ?_
      refine J.iload g dX0_plusByParts_51 rfl ?_
      refine J.imulN g dX0_plusByParts_53 ?_
      refine J.istore g dX0_plusByParts_54 rfl rfl ?_
      try dsimp only [List.set_cons_zero, List.set_cons_succ]
      refine J.iload_n g dX0_plusByParts_56 rfl rfl ?_
      refine J.iload g dX0_plusByParts_57 rfl ?_
      refine J.idivN g dX0_plusByParts_59 (by omega) hz (by omega) ?_
      refine J.istore_n g dX0_plusByParts_60 rfl rfl rfl ?_
      try dsimp only [List.set_cons_zero, List.set_cons_succ]
      refine J.iload_n g dX0_plusByParts_61 rfl rfl ?_
      refine J.iload g dX0_plusByParts_62 rfl ?_
      refine J.idivN g dX0_plusByParts_64 (by omega) hz (by omega) ?_
      refine J.istore_n g dX0_plusByParts_65 rfl rfl rfl ?_
      try dsimp only [List.set_cons_zero, List.set_cons_succ]
      refine J.iinc g dX0_plusByParts_66 rfl rfl (j_decm _) ?_
      try dsimp only [List.set_cons_zero, List.set_cons_succ]
      refine J.goto g dX0_plusByParts_69 (tgt := 13) (by decide) ?_
      exact J.lvle (jle_s (jle_s (jle_s (jle_s (jle_s (jle_s (jle_n jle_0))))))) (ih_lp (a1 / gsz cd k) (b1 / gsz cd k) (w * gsz cd k) (r + w * ((a1 % gsz cd k + b1 % gsz cd k) % gsz cd k)) (by omega) (by have := Nat.div_le_self a1 (gsz cd k); omega) (by have := Nat.div_le_self b1 (gsz cd k); omega) hr)
  exact J.lvle (jle_s (jle_s (jle_s (jle_s (jle_s (jle_s (jle_n jle_0))))))) (lp pt a b 1 0 (Nat.le_refl _) ha hb rfl)
set_option maxHeartbeats 4000000 in
set_option maxRecDepth 100000 in
theorem c_X0_leastCommonMultiple (l : Launch) (γ : jγ) (a b : Nat) (ha : a < 2 ^ 20) (hb : b < 32) (h0 : 0 < b) : jM (S := Unit) l γ yX0_leastCommonMultiple cX0_leastCommonMultiple 4 (some .int) ({ frames := 0, cells := 0, slots := 0, locals := 0 } : Room) [.int (nI a), .int (nI b)] [] (fun w0 => some (.int (nI (glcm a b)))) (fun w0 => []) (fun w0 => True) := by
  refine jM.of [some (.int (nI a)), some (.int (nI b)), none, none] rfl (Nat.le_of_ble_eq_true rfl) (by decide) ?_
  intro x g hE hin
  refine J.iload_n g dX0_leastCommonMultiple_0 rfl rfl ?_
  refine J.istore_n g dX0_leastCommonMultiple_1 rfl rfl rfl ?_
  try dsimp only [List.set_cons_zero, List.set_cons_succ]
  refine J.iconstN g 1 dX0_leastCommonMultiple_2 ?_
  refine J.istore_n g dX0_leastCommonMultiple_3 rfl rfl rfl ?_
  try dsimp only [List.set_cons_zero, List.set_cons_succ]
  have lp : ∀ (d : Nat) (i w : Nat), b - i < d → (1 ≤ i) → (i ≤ b) → (w ≤ 2 ^ 20 * i) → (glcm a b = glc a b (b - i) w) → J γ l x [] [some (.int (nI a)), some (.int (nI b)), some (.int (nI w)), some (.int (nI i))] [] 0 0 4 := by
    intro d
    induction d with
    | zero => intro i w hm; exact absurd hm (Nat.not_lt_zero _)
    | succ d ih_lp =>
      intro i w hm h1 hi hw hr
      refine J.iload_n g dX0_leastCommonMultiple_4 rfl rfl ?_
      refine J.iload_n g dX0_leastCommonMultiple_5 rfl rfl ?_
      refine J.icmp_geN g dX0_leastCommonMultiple_6 (tgt := 25) (by decide) (by omega) (by omega) (fun c_6 => ?_) (fun c_6 => ?_)
      · refine J.iload_n g dX0_leastCommonMultiple_25 rfl rfl ?_
        exact J.iret g hE () (by first | exact glc_0 hr c_6 | exact glc_s hr c_6 c_12) trivial rfl ⟨Nat.le_of_ble_eq_true rfl, Nat.le_of_ble_eq_true rfl⟩ dX0_leastCommonMultiple_26
      · refine J.iload_n g dX0_leastCommonMultiple_9 rfl rfl ?_
        refine J.iload_n g dX0_leastCommonMultiple_10 rfl rfl ?_
        refine J.iremN g dX0_leastCommonMultiple_11 (by omega) h0 (by omega) ?_
        refine J.if_eqN g dX0_leastCommonMultiple_12 (tgt := 25) (by decide) (by have := Nat.mod_lt w h0; omega) (fun c_12 => ?_) (fun c_12 => ?_)
        · refine J.iload_n g dX0_leastCommonMultiple_25 rfl rfl ?_
          exact J.iret g hE () (by first | exact glc_0 hr c_6 | exact glc_s hr c_6 c_12) trivial rfl ⟨Nat.le_of_ble_eq_true rfl, Nat.le_of_ble_eq_true rfl⟩ dX0_leastCommonMultiple_26
        · refine J.iload_n g dX0_leastCommonMultiple_15 rfl rfl ?_
          refine J.iload_n g dX0_leastCommonMultiple_16 rfl rfl ?_
          refine J.iaddN g dX0_leastCommonMultiple_17 ?_
          refine J.istore_n g dX0_leastCommonMultiple_18 rfl rfl rfl ?_
          try dsimp only [List.set_cons_zero, List.set_cons_succ]
          refine J.iincN g 1 dX0_leastCommonMultiple_19 rfl rfl ?_
          try dsimp only [List.set_cons_zero, List.set_cons_succ]
          refine J.goto g dX0_leastCommonMultiple_22 (tgt := 4) (by decide) ?_
          exact J.lvle (jle_s (jle_s (jle_s (jle_s jle_0)))) (ih_lp (i + 1) (w + a) (by omega) (by omega) (by omega) (by omega) (by rw [hr, show b - i = (b - (i + 1)) + 1 by omega, glc, if_neg c_12]))
  exact J.lvle (jle_s (jle_s (jle_s (jle_s jle_0)))) (lp _ 1 a (Nat.lt_succ_self _) (Nat.le_refl _) (by omega) (by omega) rfl)
set_option maxHeartbeats 4000000 in
set_option maxRecDepth 100000 in
theorem c_X0_fillTables (l : Launch) (γ : jγ) (gr mk ag cd pt od ex : Nat) (mf af : Nat → Nat) (hc : cd < 2 ^ 31) (hp : pt ≤ 5) (hs : ∀ i, i < pt → 0 < gsz cd i) (ho : od ≤ 24) (hcl : ∀ a b, a < od → b < od → gpb cd pt a b 1 0 < od) (hun : ∀ a b c, a < od → b < od → c < od → gpb cd pt a b 1 0 = 0 → gpb cd pt a c 1 0 = 0 → b = c) : jM (S := (Nat → Nat) × (Nat → Nat)) l γ yX0_fillTables cX0_fillTables 4 none ({ frames := 3, cells := 0, slots := 0, locals := 68 } : Room) [.ref gr] [(gr, .inr (0, [.ref mk, .ref ag, .int (nI cd), .int (nI pt), .int (nI od), .int (nI ex)])), (mk, .inl (γ.2 1, 576, .inl (fun j => nI (mf j)))), (ag, .inl (γ.2 1, 24, .inl (fun j => nI (af j))))] (fun u => none) (fun u => [(gr, .inr (0, [.ref mk, .ref ag, .int (nI cd), .int (nI pt), .int (nI od), .int (nI ex)])), (mk, .inl (γ.2 1, 576, .inl (fun j => nI (u.1 j)))), (ag, .inl (γ.2 1, 24, .inl (fun j => nI (u.2 j))))]) (fun u => (∀ a b, a < od → b < od → u.1 (a * 24 + b) = gpb cd pt a b 1 0) ∧ ∀ a b, a < od → b < od → gpb cd pt a b 1 0 = 0 → u.2 a = b) := by
  refine jM.of [some (.ref gr), none, none, none] rfl (Nat.le_of_ble_eq_true rfl) (by decide) ?_
  intro x g hE hin
  have hv : ∀ a b, a < od → b < od → gpb cd pt a b 1 0 < 24 := fun a b h1 h2 => by have := hcl a b h1 h2; omega
  refine J.iconstN g 0 dX0_fillTables_0 ?_
  refine J.istore_n g dX0_fillTables_1 rfl rfl rfl ?_
  try dsimp only [List.set_cons_zero, List.set_cons_succ]
  have lp : ∀ (d : Nat) (i : Nat) (m1 a1 : Nat → Nat), od - i < d → (i ≤ od) → ((∀ a b, a < i → b < od → m1 (a * 24 + b) = gpb cd pt a b 1 0) ∧ ∀ a b, a < i → b < od → gpb cd pt a b 1 0 = 0 → a1 a = b) → J γ l x [(gr, .inr (0, [.ref mk, .ref ag, .int (nI cd), .int (nI pt), .int (nI od), .int (nI ex)])), (mk, .inl (γ.2 1, 576, .inl (fun j => nI (m1 j)))), (ag, .inl (γ.2 1, 24, .inl (fun j => nI (a1 j))))] [some (.ref gr), some (.int (nI i)), none, none] [] 0 0 2 := by
    intro d
    induction d with
    | zero => intro i m1 a1 hm; exact absurd hm (Nat.not_lt_zero _)
    | succ d ih_lp =>
      intro i m1 a1 hm hi hh
      refine J.iload_n g dX0_fillTables_2 rfl rfl ?_
      refine J.aload_n g dX0_fillTables_3 rfl rfl ?_
      refine J.get g jX0 4 (by decide) lf_X0_25 0 rfl rfl dX0_fillTables_4 ?_
      refine J.icmp_geN g dX0_fillTables_7 (tgt := 76) (by decide) (by omega) (by omega) (fun c_7 => ?_) (fun c_7 => ?_)
      · exact J.vret g hE (m1, a1) rfl ⟨fun a b h1 h2 => hh.1 a b (by omega) h2, fun a b h1 h2 => hh.2 a b (by omega) h2⟩ rfl ⟨Nat.le_of_ble_eq_true rfl, Nat.le_of_ble_eq_true rfl⟩ dX0_fillTables_76
      · refine J.iload_n g dX0_fillTables_10 rfl rfl ?_
        refine J.bipush (v := nI 24) g dX0_fillTables_11 (by decide +kernel) ?_
        refine J.icmp_geN g dX0_fillTables_13 (tgt := 76) (by decide) (by omega) (by omega) (fun c_13 => ?_) (fun c_13 => ?_)
        · exact J.vret g hE (m1, a1) rfl ⟨fun a b h1 h2 => hh.1 a b (by omega) h2, fun a b h1 h2 => hh.2 a b (by omega) h2⟩ rfl ⟨Nat.le_of_ble_eq_true rfl, Nat.le_of_ble_eq_true rfl⟩ dX0_fillTables_76
        · refine J.iconstN g 0 dX0_fillTables_16 ?_
          refine J.istore_n g dX0_fillTables_17 rfl rfl rfl ?_
          try dsimp only [List.set_cons_zero, List.set_cons_succ]
          have lq : ∀ (d : Nat) (j : Nat) (m2 a2 : Nat → Nat), od - j < d → (j ≤ od) → ((∀ a b, a < i → b < od → m2 (a * 24 + b) = gpb cd pt a b 1 0) ∧ ∀ a b, a < i → b < od → gpb cd pt a b 1 0 = 0 → a2 a = b) → ((∀ b, b < j → m2 (i * 24 + b) = gpb cd pt i b 1 0) ∧ ∀ b, b < j → gpb cd pt i b 1 0 = 0 → a2 i = b) → J γ l x [(gr, .inr (0, [.ref mk, .ref ag, .int (nI cd), .int (nI pt), .int (nI od), .int (nI ex)])), (mk, .inl (γ.2 1, 576, .inl (fun j => nI (m2 j)))), (ag, .inl (γ.2 1, 24, .inl (fun j => nI (a2 j))))] [some (.ref gr), some (.int (nI i)), some (.int (nI j)), none] [] 0 0 18 := by
            intro d
            induction d with
            | zero => intro j m2 a2 hm; exact absurd hm (Nat.not_lt_zero _)
            | succ d ih_lq =>
              intro j m2 a2 hm hj h2 hh2
              refine J.iload_n g dX0_fillTables_18 rfl rfl ?_
              refine J.aload_n g dX0_fillTables_19 rfl rfl ?_
              refine J.get g jX0 4 (by decide) lf_X0_25 0 rfl rfl dX0_fillTables_20 ?_
              refine J.icmp_geN g dX0_fillTables_23 (tgt := 70) (by decide) (by omega) (by omega) (fun c_23 => ?_) (fun c_23 => ?_)
              · refine J.iincN g 1 dX0_fillTables_70 rfl rfl ?_
                try dsimp only [List.set_cons_zero, List.set_cons_succ]
                refine J.goto g dX0_fillTables_73 (tgt := 2) (by decide) ?_
                exact J.lvle (jle_s (jle_s (jle_n (jle_n jle_0)))) (ih_lp (i + 1) m2 a2 (by omega) (by omega) (gft_out (by omega) h2 hh2))
              · refine J.iload_n g dX0_fillTables_26 rfl rfl ?_
                refine J.bipush (v := nI 24) g dX0_fillTables_27 (by decide +kernel) ?_
                refine J.icmp_geN g dX0_fillTables_29 (tgt := 70) (by decide) (by omega) (by omega) (fun c_29 => ?_) (fun c_29 => ?_)
                · refine J.iincN g 1 dX0_fillTables_70 rfl rfl ?_
                  try dsimp only [List.set_cons_zero, List.set_cons_succ]
                  refine J.goto g dX0_fillTables_73 (tgt := 2) (by decide) ?_
                  exact J.lvle (jle_s (jle_s (jle_n (jle_n jle_0)))) (ih_lp (i + 1) m2 a2 (by omega) (by omega) (gft_out (by omega) h2 hh2))
                · refine J.aload_n g dX0_fillTables_32 rfl rfl ?_
                  refine J.iload_n g dX0_fillTables_33 rfl rfl ?_
                  refine J.iload_n g dX0_fillTables_34 rfl rfl ?_
                  refine J.callV0 g (c_X0_plusByParts l γ _ _ _ _ _ _ _ _ _ _ _ hc hp hs (by omega) (by omega)) jy_X0_plusByParts lm_X0_45 (q0 := 0) rfl jX0.1 ⟨⟨Nat.le_of_ble_eq_true rfl, Nat.le_of_ble_eq_true rfl⟩, Nat.le_of_ble_eq_true rfl, Nat.le_of_ble_eq_true rfl⟩ (Nat.le_of_ble_eq_true rfl) rfl [0, 1, 2] rfl rfl dX0_fillTables_35 ?_
                  intro _ _
                  dsimp only [jpush]
                  refine J.istore_n g dX0_fillTables_38 rfl rfl rfl ?_
                  try dsimp only [List.set_cons_zero, List.set_cons_succ]
                  refine J.aload_n g dX0_fillTables_39 rfl rfl ?_
                  refine J.get g jX0 0 (by decide) lf_X0_9 0 rfl rfl dX0_fillTables_40 ?_
                  refine J.iload_n g dX0_fillTables_43 rfl rfl ?_
                  refine J.bipush (v := nI 24) g dX0_fillTables_44 (by decide +kernel) ?_
                  refine J.imulN g dX0_fillTables_46 ?_
                  refine J.iload_n g dX0_fillTables_47 rfl rfl ?_
                  refine J.iaddN g dX0_fillTables_48 ?_
                  refine J.iload_n g dX0_fillTables_49 rfl rfl ?_
                  refine J.i2b g dX0_fillTables_50 (j_i2b _ (by have := hv i j (by omega) (by omega); omega)) ?_
                  refine J.bastN g 1 rfl (by omega) (by decide) (by have := hv i j (by omega) (by omega); omega) dX0_fillTables_51 ?_
                  try dsimp only [List.set_cons_zero, List.set_cons_succ]
                  refine J.iload_n g dX0_fillTables_52 rfl rfl ?_
                  refine J.if_neN g dX0_fillTables_53 (tgt := 64) (by decide) (by have := hv i j (by omega) (by omega); omega) (fun c_53 => ?_) (fun c_53 => ?_)
                  · have hn := gft_i1 (F := fun a b => gpb cd pt a b 1 0) hh2 c_53
                    refine J.iincN g 1 dX0_fillTables_64 rfl rfl ?_
                    try dsimp only [List.set_cons_zero, List.set_cons_succ]
                    refine J.goto g dX0_fillTables_67 (tgt := 18) (by decide) ?_
                    exact J.lvle (jle_s (jle_s (jle_s (jle_n jle_0)))) (ih_lq (j + 1) _ _ (by omega) (by omega) (by first | exact gft_k1 (by omega) h2 | exact gft_k2 (by omega) h2) hn)
                  · have hn := gft_i2 (F := fun a b => gpb cd pt a b 1 0) hun (by omega) (by omega) hh2 c_53
                    refine J.aload_n g dX0_fillTables_56 rfl rfl ?_
                    refine J.get g jX0 1 (by decide) lf_X0_15 0 rfl rfl dX0_fillTables_57 ?_
                    refine J.iload_n g dX0_fillTables_60 rfl rfl ?_
                    refine J.iload_n g dX0_fillTables_61 rfl rfl ?_
                    refine J.i2b g dX0_fillTables_62 (j_i2b _ (by omega)) ?_
                    refine J.bastN g 2 rfl (by omega) (by decide) (by omega) dX0_fillTables_63 ?_
                    try dsimp only [List.set_cons_zero, List.set_cons_succ]
                    refine J.iincN g 1 dX0_fillTables_64 rfl rfl ?_
                    try dsimp only [List.set_cons_zero, List.set_cons_succ]
                    refine J.goto g dX0_fillTables_67 (tgt := 18) (by decide) ?_
                    exact J.lvle (jle_s (jle_s (jle_s (jle_n jle_0)))) (ih_lq (j + 1) _ _ (by omega) (by omega) (by first | exact gft_k1 (by omega) h2 | exact gft_k2 (by omega) h2) hn)
          exact J.lvle (jle_s (jle_s (jle_s (jle_n jle_0)))) (lq _ 0 m1 a1 (Nat.lt_succ_self _) (Nat.zero_le _) hh ⟨fun b h => absurd h (Nat.not_lt_zero _), fun b h => absurd h (Nat.not_lt_zero _)⟩)
  exact J.lvle (jle_s (jle_s (jle_n (jle_n jle_0)))) (lp _ 0 mf af (Nat.lt_succ_self _) (Nat.zero_le _) ⟨fun a b h => absurd h (Nat.not_lt_zero _), fun a b h => absurd h (Nat.not_lt_zero _)⟩)
set_option maxHeartbeats 4000000 in
set_option maxRecDepth 100000 in
theorem c_X0_become (l : Launch) (γ : jγ) (gr mk ag cd pt od ex : Nat) (mf af : Nat → Nat) (nc : Nat) (hG : gIs cd pt od ex mf af) (hn : nc ∈ jcodes) : jM (S := (Nat → Nat) × (Nat → Nat)) l γ yX0_become cX0_become 3 none ({ frames := 4, cells := 0, slots := 0, locals := 91 } : Room) [.ref gr, .int (nI nc)] [(gr, .inr (0, [.ref mk, .ref ag, .int (nI cd), .int (nI pt), .int (nI od), .int (nI ex)])), (mk, .inl (γ.2 1, 576, .inl (fun j => nI (mf j)))), (ag, .inl (γ.2 1, 24, .inl (fun j => nI (af j))))] (fun u => none) (fun u => [(gr, .inr (0, [.ref mk, .ref ag, .int (nI nc), .int (nI (gpt nc)), .int (nI (god nc)), .int (nI (gex nc))])), (mk, .inl (γ.2 1, 576, .inl (fun j => nI (u.1 j)))), (ag, .inl (γ.2 1, 24, .inl (fun j => nI (u.2 j))))]) (fun u => gIs nc (gpt nc) (god nc) (gex nc) u.1 u.2) := by
  have hG2 := hG
  obtain ⟨hj, rfl, rfl, rfl, hm, ha⟩ := hG
  have hs := g_small nc hn
  have hs2 := g_small cd hj
  refine jM.of [some (.ref gr), some (.int (nI nc)), none] rfl (Nat.le_of_ble_eq_true rfl) (by decide) ?_
  intro x g hE hin
  refine J.iload_n g dX0_become_0 rfl rfl ?_
  refine J.aload_n g dX0_become_1 rfl rfl ?_
  refine J.get g jX0 2 (by decide) lf_X0_18 0 rfl rfl dX0_become_2 ?_
  refine J.icmp_neN g dX0_become_5 (tgt := 9) (by decide) (by omega) (by omega) (fun c_5 => ?_) (fun c_5 => ?_)
  · refine J.aload_n g dX0_become_9 rfl rfl ?_
    refine J.iload_n g dX0_become_10 rfl rfl ?_
    refine J.put g jX0 2 (by decide) lf_X0_18 0 rfl rfl (Nat.le_of_ble_eq_true rfl) rfl rfl dX0_become_11 ?_
    try dsimp only [List.set_cons_zero, List.set_cons_succ]
    refine J.aload_n g dX0_become_14 rfl rfl ?_
    refine J.iconstN g 0 dX0_become_15 ?_
    refine J.put g jX0 3 (by decide) lf_X0_22 0 rfl rfl (Nat.le_of_ble_eq_true rfl) rfl rfl dX0_become_16 ?_
    try dsimp only [List.set_cons_zero, List.set_cons_succ]
    refine J.aload_n g dX0_become_19 rfl rfl ?_
    refine J.iload_n g dX0_become_20 rfl rfl ?_
    refine J.if_neN g dX0_become_21 (tgt := 28) (by decide) (by omega) (fun c_21 => ?_) (fun c_21 => ?_)
    · have hq : gpr nc 0 = 1 := if_neg c_21
      have hq2 : gxp nc 0 = 1 := if_neg c_21
      refine J.iconstN g 1 dX0_become_28 ?_
      refine J.put g jX0 4 (by decide) lf_X0_25 0 rfl rfl (Nat.le_of_ble_eq_true rfl) rfl rfl dX0_become_29 ?_
      try dsimp only [List.set_cons_zero, List.set_cons_succ]
      refine J.aload_n g dX0_become_32 rfl rfl ?_
      refine J.aload_n g dX0_become_33 rfl rfl ?_
      refine J.get g jX0 4 (by decide) lf_X0_25 0 rfl rfl dX0_become_34 ?_
      refine J.put g jX0 5 (by decide) lf_X0_28 0 rfl rfl (Nat.le_of_ble_eq_true rfl) rfl rfl dX0_become_37 ?_
      try dsimp only [List.set_cons_zero, List.set_cons_succ]
      refine J.iconstN g 0 dX0_become_40 ?_
      refine J.istore_n g dX0_become_41 rfl rfl rfl ?_
      try dsimp only [List.set_cons_zero, List.set_cons_succ]
      have lp : ∀ (d : Nat) (i : Nat), 4 - i < d → (i ≤ 3) → (i ≤ gpt nc) → J γ l x [(gr, .inr (0, [.ref mk, .ref ag, .int (nI nc), .int (nI i), .int (nI (gpr nc i)), .int (nI (gxp nc i))])), (mk, .inl (γ.2 1, 576, .inl (fun j => nI (mf j)))), (ag, .inl (γ.2 1, 24, .inl (fun j => nI (af j))))] [some (.ref gr), some (.int (nI nc)), some (.int (nI i))] [] 0 0 42 := by
        intro d
        induction d with
        | zero => intro i hm; exact absurd hm (Nat.not_lt_zero _)
        | succ d ih_lp =>
          intro i hm hi hle
          refine J.iload_n g dX0_become_42 rfl rfl ?_
          refine J.iconstN g 3 dX0_become_43 ?_
          refine J.icmp_geN g dX0_become_44 (tgt := 101) (by decide) (by omega) (by omega) (fun c_44 => ?_) (fun c_44 => ?_)
          · have hi3 : i = gpt nc := by omega
            subst hi3
            refine J.aload_n g dX0_become_101 rfl rfl ?_
            refine J.callV g (c_X0_fillTables l γ _ _ _ _ _ _ _ _ _ (by omega) (by omega) (fun i hi => by have := (hs.2.2.2.2.1 i hi).1; omega) (hs.2.1) (fun a b ha hb => g_closed nc hn a ha b hb) (fun a b c ha hb hc h1 h2 => by obtain ⟨z, hz, z1, z2⟩ := g_inv nc hn a ha; rw [z2 b hb h1, z2 c hc h2])) jy_X0_fillTables lm_X0_42 (q0 := 0) rfl jX0.1 ⟨⟨Nat.le_of_ble_eq_true rfl, Nat.le_of_ble_eq_true rfl⟩, Nat.le_of_ble_eq_true rfl, Nat.le_of_ble_eq_true rfl⟩ (Nat.le_of_ble_eq_true rfl) rfl [0, 1, 2] rfl (fun _ => rfl) rfl dX0_become_102 ?_
            intro u_102 h_102
            dsimp only [jput, List.set_cons_zero, List.set_cons_succ, Option.toList, List.append, List.cons_append, List.nil_append, List.append_nil]
            exact J.vret g hE u_102 rfl ⟨hn, rfl, rfl, rfl, h_102.1, h_102.2⟩ rfl ⟨Nat.le_of_ble_eq_true rfl, Nat.le_of_ble_eq_true rfl⟩ dX0_become_105
          · refine J.aload_n g dX0_become_47 rfl rfl ?_
            refine J.iload_n g dX0_become_48 rfl rfl ?_
            refine J.callV0 g (c_X0_sizeOf l γ _ _ _ _ _ _ _ _ _ _ (by omega) (by omega)) jy_X0_sizeOf lm_X0_35 (q0 := 0) rfl jX0.1 ⟨⟨Nat.le_of_ble_eq_true rfl, Nat.le_of_ble_eq_true rfl⟩, Nat.le_of_ble_eq_true rfl, Nat.le_of_ble_eq_true rfl⟩ (Nat.le_of_ble_eq_true rfl) rfl [0, 1, 2] rfl rfl dX0_become_49 ?_
            intro _ _
            dsimp only [jpush]
            rw [gsz_eq]
            refine J.if_leN g dX0_become_52 (tgt := 101) (by decide) (by have := gsz_lt nc i; omega) (fun c_52 => ?_) (fun c_52 => ?_)
            · have hi3 : i = gpt nc := by have := hs.2.2.2.2.2.1 i (by omega) c_52; omega
              subst hi3
              refine J.aload_n g dX0_become_101 rfl rfl ?_
              refine J.callV g (c_X0_fillTables l γ _ _ _ _ _ _ _ _ _ (by omega) (by omega) (fun i hi => by have := (hs.2.2.2.2.1 i hi).1; omega) (hs.2.1) (fun a b ha hb => g_closed nc hn a ha b hb) (fun a b c ha hb hc h1 h2 => by obtain ⟨z, hz, z1, z2⟩ := g_inv nc hn a ha; rw [z2 b hb h1, z2 c hc h2])) jy_X0_fillTables lm_X0_42 (q0 := 0) rfl jX0.1 ⟨⟨Nat.le_of_ble_eq_true rfl, Nat.le_of_ble_eq_true rfl⟩, Nat.le_of_ble_eq_true rfl, Nat.le_of_ble_eq_true rfl⟩ (Nat.le_of_ble_eq_true rfl) rfl [0, 1, 2] rfl (fun _ => rfl) rfl dX0_become_102 ?_
              intro u_102 h_102
              dsimp only [jput, List.set_cons_zero, List.set_cons_succ, Option.toList, List.append, List.cons_append, List.nil_append, List.append_nil]
              exact J.vret g hE u_102 rfl ⟨hn, rfl, rfl, rfl, h_102.1, h_102.2⟩ rfl ⟨Nat.le_of_ble_eq_true rfl, Nat.le_of_ble_eq_true rfl⟩ dX0_become_105
            · refine J.aload_n g dX0_become_55 rfl rfl ?_
              refine J.dup g dX0_become_56 rfl ?_
              refine J.get g jX0 3 (by decide) lf_X0_22 0 rfl rfl dX0_become_57 ?_
              refine J.iconstN g 1 dX0_become_60 ?_
              refine J.iaddN g dX0_become_61 ?_
              refine J.put g jX0 3 (by decide) lf_X0_22 0 rfl rfl (Nat.le_of_ble_eq_true rfl) rfl rfl dX0_become_62 ?_
              try dsimp only [List.set_cons_zero, List.set_cons_succ]
              refine J.aload_n g dX0_become_65 rfl rfl ?_
              refine J.dup g dX0_become_66 rfl ?_
              refine J.get g jX0 4 (by decide) lf_X0_25 0 rfl rfl dX0_become_67 ?_
              refine J.aload_n g dX0_become_70 rfl rfl ?_
              refine J.iload_n g dX0_become_71 rfl rfl ?_
              refine J.callV0 g (c_X0_sizeOf l γ _ _ _ _ _ _ _ _ _ _ (by omega) (by omega)) jy_X0_sizeOf lm_X0_35 (q0 := 0) rfl jX0.1 ⟨⟨Nat.le_of_ble_eq_true rfl, Nat.le_of_ble_eq_true rfl⟩, Nat.le_of_ble_eq_true rfl, Nat.le_of_ble_eq_true rfl⟩ (Nat.le_of_ble_eq_true rfl) rfl [0, 1, 2] rfl rfl dX0_become_72 ?_
              intro _ _
              dsimp only [jpush]
              rw [gsz_eq]
              refine J.imulN g dX0_become_75 ?_
              refine J.put g jX0 4 (by decide) lf_X0_25 0 rfl rfl (Nat.le_of_ble_eq_true rfl) rfl rfl dX0_become_76 ?_
              try dsimp only [List.set_cons_zero, List.set_cons_succ]
              refine J.aload_n g dX0_become_79 rfl rfl ?_
              refine J.aload_n g dX0_become_80 rfl rfl ?_
              refine J.get g jX0 5 (by decide) lf_X0_28 0 rfl rfl dX0_become_81 ?_
              refine J.aload_n g dX0_become_84 rfl rfl ?_
              refine J.iload_n g dX0_become_85 rfl rfl ?_
              refine J.callV0 g (c_X0_sizeOf l γ _ _ _ _ _ _ _ _ _ _ (by omega) (by omega)) jy_X0_sizeOf lm_X0_35 (q0 := 0) rfl jX0.1 ⟨⟨Nat.le_of_ble_eq_true rfl, Nat.le_of_ble_eq_true rfl⟩, Nat.le_of_ble_eq_true rfl, Nat.le_of_ble_eq_true rfl⟩ (Nat.le_of_ble_eq_true rfl) rfl [0, 1, 2] rfl rfl dX0_become_86 ?_
              intro _ _
              dsimp only [jpush]
              rw [gsz_eq]
              refine J.callS0 g (c_X0_leastCommonMultiple l γ _ _ (by have := (hs.2.2.2.2.2.2 i (by omega)).2; omega) (gsz_lt nc i) c_52) jy_X0_leastCommonMultiple lm_X0_39 ⟨⟨Nat.le_of_ble_eq_true rfl, Nat.le_of_ble_eq_true rfl⟩, Nat.le_of_ble_eq_true rfl, Nat.le_of_ble_eq_true rfl⟩ (Nat.le_of_ble_eq_true rfl) rfl [] rfl rfl dX0_become_89 ?_
              intro _ _
              dsimp only [jpush]
              refine J.put g jX0 5 (by decide) lf_X0_28 0 rfl rfl (Nat.le_of_ble_eq_true rfl) rfl rfl dX0_become_92 ?_
              try dsimp only [List.set_cons_zero, List.set_cons_succ]
              refine J.iincN g 1 dX0_become_95 rfl rfl ?_
              try dsimp only [List.set_cons_zero, List.set_cons_succ]
              refine J.goto g dX0_become_98 (tgt := 42) (by decide) ?_
              exact J.lvle (jle_s (jle_s (jle_s jle_0))) (ih_lp (i + 1) (by omega) (by omega) (g_next hle (by omega) c_52))
      have ih2 := lp _ 0 (Nat.lt_succ_self _) (by omega) (Nat.zero_le _)
      rw [hq, hq2] at ih2
      exact J.lvle (jle_s (jle_s (jle_s jle_0))) ih2
    · have hq : gpr nc 0 = 0 := if_pos c_21
      have hq2 : gxp nc 0 = 0 := if_pos c_21
      refine J.iconstN g 0 dX0_become_24 ?_
      refine J.goto g dX0_become_25 (tgt := 29) (by decide) ?_
      refine J.put g jX0 4 (by decide) lf_X0_25 0 rfl rfl (Nat.le_of_ble_eq_true rfl) rfl rfl dX0_become_29 ?_
      try dsimp only [List.set_cons_zero, List.set_cons_succ]
      refine J.aload_n g dX0_become_32 rfl rfl ?_
      refine J.aload_n g dX0_become_33 rfl rfl ?_
      refine J.get g jX0 4 (by decide) lf_X0_25 0 rfl rfl dX0_become_34 ?_
      refine J.put g jX0 5 (by decide) lf_X0_28 0 rfl rfl (Nat.le_of_ble_eq_true rfl) rfl rfl dX0_become_37 ?_
      try dsimp only [List.set_cons_zero, List.set_cons_succ]
      refine J.iconstN g 0 dX0_become_40 ?_
      refine J.istore_n g dX0_become_41 rfl rfl rfl ?_
      try dsimp only [List.set_cons_zero, List.set_cons_succ]
      have lp : ∀ (d : Nat) (i : Nat), 4 - i < d → (i ≤ 3) → (i ≤ gpt nc) → J γ l x [(gr, .inr (0, [.ref mk, .ref ag, .int (nI nc), .int (nI i), .int (nI (gpr nc i)), .int (nI (gxp nc i))])), (mk, .inl (γ.2 1, 576, .inl (fun j => nI (mf j)))), (ag, .inl (γ.2 1, 24, .inl (fun j => nI (af j))))] [some (.ref gr), some (.int (nI nc)), some (.int (nI i))] [] 0 0 42 := by
        intro d
        induction d with
        | zero => intro i hm; exact absurd hm (Nat.not_lt_zero _)
        | succ d ih_lp =>
          intro i hm hi hle
          refine J.iload_n g dX0_become_42 rfl rfl ?_
          refine J.iconstN g 3 dX0_become_43 ?_
          refine J.icmp_geN g dX0_become_44 (tgt := 101) (by decide) (by omega) (by omega) (fun c_44 => ?_) (fun c_44 => ?_)
          · have hi3 : i = gpt nc := by omega
            subst hi3
            refine J.aload_n g dX0_become_101 rfl rfl ?_
            refine J.callV g (c_X0_fillTables l γ _ _ _ _ _ _ _ _ _ (by omega) (by omega) (fun i hi => by have := (hs.2.2.2.2.1 i hi).1; omega) (hs.2.1) (fun a b ha hb => g_closed nc hn a ha b hb) (fun a b c ha hb hc h1 h2 => by obtain ⟨z, hz, z1, z2⟩ := g_inv nc hn a ha; rw [z2 b hb h1, z2 c hc h2])) jy_X0_fillTables lm_X0_42 (q0 := 0) rfl jX0.1 ⟨⟨Nat.le_of_ble_eq_true rfl, Nat.le_of_ble_eq_true rfl⟩, Nat.le_of_ble_eq_true rfl, Nat.le_of_ble_eq_true rfl⟩ (Nat.le_of_ble_eq_true rfl) rfl [0, 1, 2] rfl (fun _ => rfl) rfl dX0_become_102 ?_
            intro u_102 h_102
            dsimp only [jput, List.set_cons_zero, List.set_cons_succ, Option.toList, List.append, List.cons_append, List.nil_append, List.append_nil]
            exact J.vret g hE u_102 rfl ⟨hn, rfl, rfl, rfl, h_102.1, h_102.2⟩ rfl ⟨Nat.le_of_ble_eq_true rfl, Nat.le_of_ble_eq_true rfl⟩ dX0_become_105
          · refine J.aload_n g dX0_become_47 rfl rfl ?_
            refine J.iload_n g dX0_become_48 rfl rfl ?_
            refine J.callV0 g (c_X0_sizeOf l γ _ _ _ _ _ _ _ _ _ _ (by omega) (by omega)) jy_X0_sizeOf lm_X0_35 (q0 := 0) rfl jX0.1 ⟨⟨Nat.le_of_ble_eq_true rfl, Nat.le_of_ble_eq_true rfl⟩, Nat.le_of_ble_eq_true rfl, Nat.le_of_ble_eq_true rfl⟩ (Nat.le_of_ble_eq_true rfl) rfl [0, 1, 2] rfl rfl dX0_become_49 ?_
            intro _ _
            dsimp only [jpush]
            rw [gsz_eq]
            refine J.if_leN g dX0_become_52 (tgt := 101) (by decide) (by have := gsz_lt nc i; omega) (fun c_52 => ?_) (fun c_52 => ?_)
            · have hi3 : i = gpt nc := by have := hs.2.2.2.2.2.1 i (by omega) c_52; omega
              subst hi3
              refine J.aload_n g dX0_become_101 rfl rfl ?_
              refine J.callV g (c_X0_fillTables l γ _ _ _ _ _ _ _ _ _ (by omega) (by omega) (fun i hi => by have := (hs.2.2.2.2.1 i hi).1; omega) (hs.2.1) (fun a b ha hb => g_closed nc hn a ha b hb) (fun a b c ha hb hc h1 h2 => by obtain ⟨z, hz, z1, z2⟩ := g_inv nc hn a ha; rw [z2 b hb h1, z2 c hc h2])) jy_X0_fillTables lm_X0_42 (q0 := 0) rfl jX0.1 ⟨⟨Nat.le_of_ble_eq_true rfl, Nat.le_of_ble_eq_true rfl⟩, Nat.le_of_ble_eq_true rfl, Nat.le_of_ble_eq_true rfl⟩ (Nat.le_of_ble_eq_true rfl) rfl [0, 1, 2] rfl (fun _ => rfl) rfl dX0_become_102 ?_
              intro u_102 h_102
              dsimp only [jput, List.set_cons_zero, List.set_cons_succ, Option.toList, List.append, List.cons_append, List.nil_append, List.append_nil]
              exact J.vret g hE u_102 rfl ⟨hn, rfl, rfl, rfl, h_102.1, h_102.2⟩ rfl ⟨Nat.le_of_ble_eq_true rfl, Nat.le_of_ble_eq_true rfl⟩ dX0_become_105
            · refine J.aload_n g dX0_become_55 rfl rfl ?_
              refine J.dup g dX0_become_56 rfl ?_
              refine J.get g jX0 3 (by decide) lf_X0_22 0 rfl rfl dX0_become_57 ?_
              refine J.iconstN g 1 dX0_become_60 ?_
              refine J.iaddN g dX0_become_61 ?_
              refine J.put g jX0 3 (by decide) lf_X0_22 0 rfl rfl (Nat.le_of_ble_eq_true rfl) rfl rfl dX0_become_62 ?_
              try dsimp only [List.set_cons_zero, List.set_cons_succ]
              refine J.aload_n g dX0_become_65 rfl rfl ?_
              refine J.dup g dX0_become_66 rfl ?_
              refine J.get g jX0 4 (by decide) lf_X0_25 0 rfl rfl dX0_become_67 ?_
              refine J.aload_n g dX0_become_70 rfl rfl ?_
              refine J.iload_n g dX0_become_71 rfl rfl ?_
              refine J.callV0 g (c_X0_sizeOf l γ _ _ _ _ _ _ _ _ _ _ (by omega) (by omega)) jy_X0_sizeOf lm_X0_35 (q0 := 0) rfl jX0.1 ⟨⟨Nat.le_of_ble_eq_true rfl, Nat.le_of_ble_eq_true rfl⟩, Nat.le_of_ble_eq_true rfl, Nat.le_of_ble_eq_true rfl⟩ (Nat.le_of_ble_eq_true rfl) rfl [0, 1, 2] rfl rfl dX0_become_72 ?_
              intro _ _
              dsimp only [jpush]
              rw [gsz_eq]
              refine J.imulN g dX0_become_75 ?_
              refine J.put g jX0 4 (by decide) lf_X0_25 0 rfl rfl (Nat.le_of_ble_eq_true rfl) rfl rfl dX0_become_76 ?_
              try dsimp only [List.set_cons_zero, List.set_cons_succ]
              refine J.aload_n g dX0_become_79 rfl rfl ?_
              refine J.aload_n g dX0_become_80 rfl rfl ?_
              refine J.get g jX0 5 (by decide) lf_X0_28 0 rfl rfl dX0_become_81 ?_
              refine J.aload_n g dX0_become_84 rfl rfl ?_
              refine J.iload_n g dX0_become_85 rfl rfl ?_
              refine J.callV0 g (c_X0_sizeOf l γ _ _ _ _ _ _ _ _ _ _ (by omega) (by omega)) jy_X0_sizeOf lm_X0_35 (q0 := 0) rfl jX0.1 ⟨⟨Nat.le_of_ble_eq_true rfl, Nat.le_of_ble_eq_true rfl⟩, Nat.le_of_ble_eq_true rfl, Nat.le_of_ble_eq_true rfl⟩ (Nat.le_of_ble_eq_true rfl) rfl [0, 1, 2] rfl rfl dX0_become_86 ?_
              intro _ _
              dsimp only [jpush]
              rw [gsz_eq]
              refine J.callS0 g (c_X0_leastCommonMultiple l γ _ _ (by have := (hs.2.2.2.2.2.2 i (by omega)).2; omega) (gsz_lt nc i) c_52) jy_X0_leastCommonMultiple lm_X0_39 ⟨⟨Nat.le_of_ble_eq_true rfl, Nat.le_of_ble_eq_true rfl⟩, Nat.le_of_ble_eq_true rfl, Nat.le_of_ble_eq_true rfl⟩ (Nat.le_of_ble_eq_true rfl) rfl [] rfl rfl dX0_become_89 ?_
              intro _ _
              dsimp only [jpush]
              refine J.put g jX0 5 (by decide) lf_X0_28 0 rfl rfl (Nat.le_of_ble_eq_true rfl) rfl rfl dX0_become_92 ?_
              try dsimp only [List.set_cons_zero, List.set_cons_succ]
              refine J.iincN g 1 dX0_become_95 rfl rfl ?_
              try dsimp only [List.set_cons_zero, List.set_cons_succ]
              refine J.goto g dX0_become_98 (tgt := 42) (by decide) ?_
              exact J.lvle (jle_s (jle_s (jle_s jle_0))) (ih_lp (i + 1) (by omega) (by omega) (g_next hle (by omega) c_52))
      have ih2 := lp _ 0 (Nat.lt_succ_self _) (by omega) (Nat.zero_le _)
      rw [hq, hq2] at ih2
      exact J.lvle (jle_s (jle_s (jle_s jle_0))) ih2
  · exact J.vret g hE (mf, af) rfl (by rw [c_5]; exact hG2) (by rw [c_5]) ⟨Nat.le_of_ble_eq_true rfl, Nat.le_of_ble_eq_true rfl⟩ dX0_become_8
