set_option maxHeartbeats 4000000 in
set_option maxRecDepth 100000 in
theorem c_X6_length (l : Launch) (γ : jγ) (a e n : Nat) (f : Nat → Nat)  : jM (S := Unit) l γ yX6_length cX6_length 1 (some .int) ({ frames := 0, cells := 0, slots := 0, locals := 0 } : Room) [.ref a] [(a, .inr (6, [.ref e, .int (nI n)])), (e, .inl (γ.2 0, 12, .inl (fun j => nI (f j))))] (fun w0 => some (.int (nI n))) (fun w0 => [(a, .inr (6, [.ref e, .int (nI n)])), (e, .inl (γ.2 0, 12, .inl (fun j => nI (f j))))]) (fun w0 => True) := by
  refine jM.of [some (.ref a)] rfl (Nat.le_of_ble_eq_true rfl) (by decide) ?_
  intro x g hE hin
  refine J.aload_n g dX6_length_0 rfl rfl ?_
  refine J.get g jX6 1 (by decide) lf_X6_15 0 rfl rfl dX6_length_1 ?_
  exact J.iret g hE () rfl trivial rfl ⟨Nat.le_of_ble_eq_true rfl, Nat.le_of_ble_eq_true rfl⟩ dX6_length_4
set_option maxHeartbeats 4000000 in
set_option maxRecDepth 100000 in
theorem c_X6_has (l : Launch) (γ : jγ) (a e n : Nat) (f : Nat → Nat) (i : Int32) (hn : n ≤ 12) : jM (S := Unit) l γ yX6_has cX6_has 2 (some .boolean) ({ frames := 0, cells := 0, slots := 0, locals := 0 } : Room) [.ref a, .int i] [(a, .inr (6, [.ref e, .int (nI n)])), (e, .inl (γ.2 0, 12, .inl (fun j => nI (f j))))] (fun w0 => some (.int (jB (jhas i n)))) (fun w0 => [(a, .inr (6, [.ref e, .int (nI n)])), (e, .inl (γ.2 0, 12, .inl (fun j => nI (f j))))]) (fun w0 => True) := by
  refine jM.of [some (.ref a), some (.int i)] rfl (Nat.le_of_ble_eq_true rfl) (by decide) ?_
  intro x g hE hin
  refine J.iload_n g dX6_has_0 rfl rfl ?_
  refine J.if_lt g dX6_has_1 (tgt := 22) (by decide) (fun c_1 => ?_) (fun c_1 => ?_)
  · refine J.iconstN g 0 dX6_has_22 ?_
    exact J.zret (by first | rfl | exact j_nz _) g hE () (jB_f (by simp (disch := omega) only [jhas, decide_eq_true_eq, decide_eq_false_iff_not, Int32.lt_iff_toInt_lt, Int32.le_iff_toInt_le, Int32.toInt_zero, nI_toInt] at *; omega)) trivial rfl ⟨Nat.le_of_ble_eq_true rfl, Nat.le_of_ble_eq_true rfl⟩ dX6_has_23
  · refine J.iload_n g dX6_has_4 rfl rfl ?_
    refine J.aload_n g dX6_has_5 rfl rfl ?_
    refine J.get g jX6 1 (by decide) lf_X6_15 0 rfl rfl dX6_has_6 ?_
    refine J.icmp_ge g dX6_has_9 (tgt := 22) (by decide) (fun c_9 => ?_) (fun c_9 => ?_)
    · refine J.iconstN g 0 dX6_has_22 ?_
      exact J.zret (by first | rfl | exact j_nz _) g hE () (jB_f (by simp (disch := omega) only [jhas, decide_eq_true_eq, decide_eq_false_iff_not, Int32.lt_iff_toInt_lt, Int32.le_iff_toInt_le, Int32.toInt_zero, nI_toInt] at *; omega)) trivial rfl ⟨Nat.le_of_ble_eq_true rfl, Nat.le_of_ble_eq_true rfl⟩ dX6_has_23
    · refine J.iload_n g dX6_has_12 rfl rfl ?_
      refine J.bipush (v := nI 12) g dX6_has_13 (by decide +kernel) ?_
      refine J.icmp_ge g dX6_has_15 (tgt := 22) (by decide) (fun c_15 => ?_) (fun c_15 => ?_)
      · refine J.iconstN g 0 dX6_has_22 ?_
        exact J.zret (by first | rfl | exact j_nz _) g hE () (jB_f (by simp (disch := omega) only [jhas, decide_eq_true_eq, decide_eq_false_iff_not, Int32.lt_iff_toInt_lt, Int32.le_iff_toInt_le, Int32.toInt_zero, nI_toInt] at *; omega)) trivial rfl ⟨Nat.le_of_ble_eq_true rfl, Nat.le_of_ble_eq_true rfl⟩ dX6_has_23
      · refine J.iconstN g 1 dX6_has_18 ?_
        refine J.goto g dX6_has_19 (tgt := 23) (by decide) ?_
        exact J.zret (by first | rfl | exact j_nz _) g hE () (jB_t (by simp (disch := omega) only [jhas, decide_eq_true_eq, decide_eq_false_iff_not, Int32.lt_iff_toInt_lt, Int32.le_iff_toInt_le, Int32.toInt_zero, nI_toInt] at *; omega)) trivial rfl ⟨Nat.le_of_ble_eq_true rfl, Nat.le_of_ble_eq_true rfl⟩ dX6_has_23
set_option maxHeartbeats 4000000 in
set_option maxRecDepth 100000 in
theorem c_X6_isFull (l : Launch) (γ : jγ) (a e n : Nat) (f : Nat → Nat) (hn : n ≤ 12) : jM (S := Unit) l γ yX6_isFull cX6_isFull 1 (some .boolean) ({ frames := 0, cells := 0, slots := 0, locals := 0 } : Room) [.ref a] [(a, .inr (6, [.ref e, .int (nI n)])), (e, .inl (γ.2 0, 12, .inl (fun j => nI (f j))))] (fun w0 => some (.int (jB (decide (12 ≤ n))))) (fun w0 => [(a, .inr (6, [.ref e, .int (nI n)])), (e, .inl (γ.2 0, 12, .inl (fun j => nI (f j))))]) (fun w0 => True) := by
  refine jM.of [some (.ref a)] rfl (Nat.le_of_ble_eq_true rfl) (by decide) ?_
  intro x g hE hin
  refine J.aload_n g dX6_isFull_0 rfl rfl ?_
  refine J.get g jX6 1 (by decide) lf_X6_15 0 rfl rfl dX6_isFull_1 ?_
  refine J.bipush (v := nI 12) g dX6_isFull_4 (by decide +kernel) ?_
  refine J.icmp_ltN g dX6_isFull_6 (tgt := 13) (by decide) (by omega) (by omega) (fun c_6 => ?_) (fun c_6 => ?_)
  · refine J.iconstN g 0 dX6_isFull_13 ?_
    exact J.zret (by first | rfl | exact j_nz _) g hE () (jB_f (by simp (disch := omega) only [jhas, decide_eq_true_eq, decide_eq_false_iff_not, Int32.lt_iff_toInt_lt, Int32.le_iff_toInt_le, Int32.toInt_zero, nI_toInt] at *; omega)) trivial rfl ⟨Nat.le_of_ble_eq_true rfl, Nat.le_of_ble_eq_true rfl⟩ dX6_isFull_14
  · refine J.iconstN g 1 dX6_isFull_9 ?_
    refine J.goto g dX6_isFull_10 (tgt := 14) (by decide) ?_
    exact J.zret (by first | rfl | exact j_nz _) g hE () (jB_t (by simp (disch := omega) only [jhas, decide_eq_true_eq, decide_eq_false_iff_not, Int32.lt_iff_toInt_lt, Int32.le_iff_toInt_le, Int32.toInt_zero, nI_toInt] at *; omega)) trivial rfl ⟨Nat.le_of_ble_eq_true rfl, Nat.le_of_ble_eq_true rfl⟩ dX6_isFull_14
set_option maxHeartbeats 4000000 in
set_option maxRecDepth 100000 in
theorem c_X6_clear (l : Launch) (γ : jγ) (a e n : Nat) (f : Nat → Nat)  : jM (S := Unit) l γ yX6_clear cX6_clear 1 none ({ frames := 0, cells := 0, slots := 0, locals := 0 } : Room) [.ref a] [(a, .inr (6, [.ref e, .int (nI n)])), (e, .inl (γ.2 0, 12, .inl (fun j => nI (f j))))] (fun w0 => none) (fun w0 => [(a, .inr (6, [.ref e, .int (nI 0)])), (e, .inl (γ.2 0, 12, .inl (fun j => nI (f j))))]) (fun w0 => True) := by
  refine jM.of [some (.ref a)] rfl (Nat.le_of_ble_eq_true rfl) (by decide) ?_
  intro x g hE hin
  refine J.aload_n g dX6_clear_0 rfl rfl ?_
  refine J.iconstN g 0 dX6_clear_1 ?_
  refine J.put g jX6 1 (by decide) lf_X6_15 0 rfl rfl (Nat.le_of_ble_eq_true rfl) rfl rfl dX6_clear_2 ?_
  try dsimp only [List.set_cons_zero, List.set_cons_succ]
  exact J.vret g hE () rfl trivial rfl ⟨Nat.le_of_ble_eq_true rfl, Nat.le_of_ble_eq_true rfl⟩ dX6_clear_5
set_option maxHeartbeats 4000000 in
set_option maxRecDepth 100000 in
theorem c_X6_copyFrom (l : Launch) (γ : jγ) (a e n : Nat) (f : Nat → Nat) (a2 e2 n2 : Nat) (f2 : Nat → Nat) (hn : n2 ≤ 12) : jM (S := Nat → Nat) l γ yX6_copyFrom cX6_copyFrom 3 none ({ frames := 0, cells := 0, slots := 0, locals := 0 } : Room) [.ref a, .ref a2] [(a, .inr (6, [.ref e, .int (nI n)])), (e, .inl (γ.2 0, 12, .inl (fun j => nI (f j)))), (a2, .inr (6, [.ref e2, .int (nI n2)])), (e2, .inl (γ.2 0, 12, .inl (fun j => nI (f2 j))))] (fun u => none) (fun u => [(a, .inr (6, [.ref e, .int (nI n2)])), (e, .inl (γ.2 0, 12, .inl (fun j => nI (u j)))), (a2, .inr (6, [.ref e2, .int (nI n2)])), (e2, .inl (γ.2 0, 12, .inl (fun j => nI (f2 j))))]) (fun u => ∀ k, k < n2 → u k = f2 k) := by
  refine jM.of [some (.ref a), some (.ref a2), none] rfl (Nat.le_of_ble_eq_true rfl) (by decide) ?_
  intro x g hE hin
  refine J.aload_n g dX6_copyFrom_0 rfl rfl ?_
  refine J.aload_n g dX6_copyFrom_1 rfl rfl ?_
  refine J.get g jX6 1 (by decide) lf_X6_15 2 rfl rfl dX6_copyFrom_2 ?_
  refine J.put g jX6 1 (by decide) lf_X6_15 0 rfl rfl (Nat.le_of_ble_eq_true rfl) rfl rfl dX6_copyFrom_5 ?_
  try dsimp only [List.set_cons_zero, List.set_cons_succ]
  refine J.iconstN g 0 dX6_copyFrom_8 ?_
  refine J.istore_n g dX6_copyFrom_9 rfl rfl rfl ?_
  try dsimp only [List.set_cons_zero, List.set_cons_succ]
  have lp : ∀ (d : Nat) (i : Nat) (h : Nat → Nat), n2 - i < d → (i ≤ n2) → (∀ k, k < i → h k = f2 k) → J γ l x [(a, .inr (6, [.ref e, .int (nI n2)])), (e, .inl (γ.2 0, 12, .inl (fun j => nI (h j)))), (a2, .inr (6, [.ref e2, .int (nI n2)])), (e2, .inl (γ.2 0, 12, .inl (fun j => nI (f2 j))))] [some (.ref a), some (.ref a2), some (.int (nI i))] [] 0 0 10 := by
    intro d
    induction d with
    | zero => intro i h hm; exact absurd hm (Nat.not_lt_zero _)
    | succ d ih_lp =>
      intro i h hm hi hh
      refine J.iload_n g dX6_copyFrom_10 rfl rfl ?_
      refine J.aload_n g dX6_copyFrom_11 rfl rfl ?_
      refine J.get g jX6 1 (by decide) lf_X6_15 0 rfl rfl dX6_copyFrom_12 ?_
      refine J.icmp_geN g dX6_copyFrom_15 (tgt := 42) (by decide) (by omega) (by omega) (fun c_15 => ?_) (fun c_15 => ?_)
      · exact J.vret g hE h rfl (fun k hk => hh k (by omega)) rfl ⟨Nat.le_of_ble_eq_true rfl, Nat.le_of_ble_eq_true rfl⟩ dX6_copyFrom_42
      · refine J.iload_n g dX6_copyFrom_18 rfl rfl ?_
        refine J.bipush (v := nI 12) g dX6_copyFrom_19 (by decide +kernel) ?_
        refine J.icmp_geN g dX6_copyFrom_21 (tgt := 42) (by decide) (by omega) (by omega) (fun c_21 => ?_) (fun c_21 => ?_)
        · exact J.vret g hE h rfl (fun k hk => hh k (by omega)) rfl ⟨Nat.le_of_ble_eq_true rfl, Nat.le_of_ble_eq_true rfl⟩ dX6_copyFrom_42
        · refine J.aload_n g dX6_copyFrom_24 rfl rfl ?_
          refine J.get g jX6 0 (by decide) lf_X6_9 0 rfl rfl dX6_copyFrom_25 ?_
          refine J.iload_n g dX6_copyFrom_28 rfl rfl ?_
          refine J.aload_n g dX6_copyFrom_29 rfl rfl ?_
          refine J.get g jX6 0 (by decide) lf_X6_9 2 rfl rfl dX6_copyFrom_30 ?_
          refine J.iload_n g dX6_copyFrom_33 rfl rfl ?_
          refine J.ialdN g 3 rfl (by omega) (by decide) dX6_copyFrom_34 ?_
          refine J.iastN g 1 rfl (by omega) (by decide) dX6_copyFrom_35 ?_
          try dsimp only [List.set_cons_zero, List.set_cons_succ]
          refine J.iincN g 1 dX6_copyFrom_36 rfl rfl ?_
          try dsimp only [List.set_cons_zero, List.set_cons_succ]
          refine J.goto g dX6_copyFrom_39 (tgt := 10) (by decide) ?_
          exact J.lvle (jle_s (jle_s (jle_s jle_0))) (ih_lp (i + 1) (va_up h i (f2 i)) (by omega) (by omega) (up_lt (P := fun k y => y = f2 k) hh rfl))
  exact J.lvle (jle_s (jle_s (jle_s jle_0))) (lp _ 0 f (Nat.lt_succ_self _) (Nat.zero_le _) (fun k hk => absurd hk (Nat.not_lt_zero _)))
set_option maxHeartbeats 4000000 in
set_option maxRecDepth 100000 in
theorem c_X6_has_n (l : Launch) (γ : jγ) (a e n : Nat) (f : Nat → Nat) (i : Nat) (hn : n ≤ 12) (hi : i < 2 ^ 31) : jM (S := Unit) l γ yX6_has cX6_has 2 (some .boolean) ({ frames := 0, cells := 0, slots := 0, locals := 0 } : Room) [.ref a, .int (nI i)] [(a, .inr (6, [.ref e, .int (nI n)])), (e, .inl (γ.2 0, 12, .inl (fun j => nI (f j))))] (fun w0 => some (.int (jB (decide (i < n))))) (fun w0 => [(a, .inr (6, [.ref e, .int (nI n)])), (e, .inl (γ.2 0, 12, .inl (fun j => nI (f j))))]) (fun w0 => True) := by
  refine jM.of [some (.ref a), some (.int (nI i))] rfl (Nat.le_of_ble_eq_true rfl) (by decide) ?_
  intro x g hE hin
  refine J.iload_n g dX6_has_0 rfl rfl ?_
  refine J.if_ltN g dX6_has_1 (tgt := 22) (by decide) (by omega) ?_
  refine J.iload_n g dX6_has_4 rfl rfl ?_
  refine J.aload_n g dX6_has_5 rfl rfl ?_
  refine J.get g jX6 1 (by decide) lf_X6_15 0 rfl rfl dX6_has_6 ?_
  refine J.icmp_geN g dX6_has_9 (tgt := 22) (by decide) (by omega) (by omega) (fun c_9 => ?_) (fun c_9 => ?_)
  · refine J.iconstN g 0 dX6_has_22 ?_
    exact J.zret (by first | rfl | exact j_nz _) g hE () (jB_f (by simp (disch := omega) only [jhas, decide_eq_true_eq, decide_eq_false_iff_not, Int32.lt_iff_toInt_lt, Int32.le_iff_toInt_le, Int32.toInt_zero, nI_toInt] at *; omega)) trivial rfl ⟨Nat.le_of_ble_eq_true rfl, Nat.le_of_ble_eq_true rfl⟩ dX6_has_23
  · refine J.iload_n g dX6_has_12 rfl rfl ?_
    refine J.bipush (v := nI 12) g dX6_has_13 (by decide +kernel) ?_
    refine J.icmp_geN g dX6_has_15 (tgt := 22) (by decide) (by omega) (by omega) (fun c_15 => ?_) (fun c_15 => ?_)
    · refine J.iconstN g 0 dX6_has_22 ?_
      exact J.zret (by first | rfl | exact j_nz _) g hE () (jB_f (by simp (disch := omega) only [jhas, decide_eq_true_eq, decide_eq_false_iff_not, Int32.lt_iff_toInt_lt, Int32.le_iff_toInt_le, Int32.toInt_zero, nI_toInt] at *; omega)) trivial rfl ⟨Nat.le_of_ble_eq_true rfl, Nat.le_of_ble_eq_true rfl⟩ dX6_has_23
    · refine J.iconstN g 1 dX6_has_18 ?_
      refine J.goto g dX6_has_19 (tgt := 23) (by decide) ?_
      exact J.zret (by first | rfl | exact j_nz _) g hE () (jB_t (by simp (disch := omega) only [jhas, decide_eq_true_eq, decide_eq_false_iff_not, Int32.lt_iff_toInt_lt, Int32.le_iff_toInt_le, Int32.toInt_zero, nI_toInt] at *; omega)) trivial rfl ⟨Nat.le_of_ble_eq_true rfl, Nat.le_of_ble_eq_true rfl⟩ dX6_has_23
set_option maxHeartbeats 4000000 in
set_option maxRecDepth 100000 in
theorem c_X6_elementAt (l : Launch) (γ : jγ) (a e n : Nat) (f : Nat → Nat) (i : Int32) (hn : n ≤ 12) : jM (S := Unit) l γ yX6_elementAt cX6_elementAt 2 (some .int) ({ frames := 1, cells := 0, slots := 0, locals := 21 } : Room) [.ref a, .int i] [(a, .inr (6, [.ref e, .int (nI n)])), (e, .inl (γ.2 0, 12, .inl (fun j => nI (f j))))] (fun w0 => some (.int (jat f n i))) (fun w0 => [(a, .inr (6, [.ref e, .int (nI n)])), (e, .inl (γ.2 0, 12, .inl (fun j => nI (f j))))]) (fun w0 => True) := by
  refine jM.of [some (.ref a), some (.int i)] rfl (Nat.le_of_ble_eq_true rfl) (by decide) ?_
  intro x g hE hin
  refine J.aload_n g dX6_elementAt_0 rfl rfl ?_
  refine J.iload_n g dX6_elementAt_1 rfl rfl ?_
  refine J.callV0 g (c_X6_has l γ _ _ _ _ _ (by omega)) jy_X6_has lm_X6_19 (q0 := 0) rfl jX6.1 ⟨⟨Nat.le_of_ble_eq_true rfl, Nat.le_of_ble_eq_true rfl⟩, Nat.le_of_ble_eq_true rfl, Nat.le_of_ble_eq_true rfl⟩ (Nat.le_of_ble_eq_true rfl) rfl [0, 1] rfl rfl dX6_elementAt_2 ?_
  intro _ _
  dsimp only [jpush]
  refine J.if_eqB g dX6_elementAt_5 (tgt := 17) (by decide) (fun c_5 => ?_) (fun c_5 => ?_)
  · refine J.iconst (v := -1) g dX6_elementAt_17 (by decide) ?_
    exact J.iret g hE () (by first | exact jat_t c_5 | exact jat_f c_5) trivial rfl ⟨Nat.le_of_ble_eq_true rfl, Nat.le_of_ble_eq_true rfl⟩ dX6_elementAt_18
  · refine J.aload_n g dX6_elementAt_8 rfl rfl ?_
    refine J.get g jX6 0 (by decide) lf_X6_9 0 rfl rfl dX6_elementAt_9 ?_
    refine J.iload_n g dX6_elementAt_12 rfl rfl ?_
    refine J.iald g 1 rfl (jhas_in c_5 hn (by decide)) rfl dX6_elementAt_13 ?_
    refine J.goto g dX6_elementAt_14 (tgt := 18) (by decide) ?_
    exact J.iret g hE () (by first | exact jat_t c_5 | exact jat_f c_5) trivial rfl ⟨Nat.le_of_ble_eq_true rfl, Nat.le_of_ble_eq_true rfl⟩ dX6_elementAt_18
set_option maxHeartbeats 4000000 in
set_option maxRecDepth 100000 in
theorem c_X6_elementAt_n (l : Launch) (γ : jγ) (a e n : Nat) (f : Nat → Nat) (i : Nat) (hn : n ≤ 12) (hi : i < n) : jM (S := Unit) l γ yX6_elementAt cX6_elementAt 2 (some .int) ({ frames := 1, cells := 0, slots := 0, locals := 21 } : Room) [.ref a, .int (nI i)] [(a, .inr (6, [.ref e, .int (nI n)])), (e, .inl (γ.2 0, 12, .inl (fun j => nI (f j))))] (fun w0 => some (.int (nI (f i)))) (fun w0 => [(a, .inr (6, [.ref e, .int (nI n)])), (e, .inl (γ.2 0, 12, .inl (fun j => nI (f j))))]) (fun w0 => True) := by
  refine jM.of [some (.ref a), some (.int (nI i))] rfl (Nat.le_of_ble_eq_true rfl) (by decide) ?_
  intro x g hE hin
  refine J.aload_n g dX6_elementAt_0 rfl rfl ?_
  refine J.iload_n g dX6_elementAt_1 rfl rfl ?_
  refine J.callV0 g (c_X6_has_n l γ _ _ _ _ _ (by omega) (by omega)) jy_X6_has lm_X6_19 (q0 := 0) rfl jX6.1 ⟨⟨Nat.le_of_ble_eq_true rfl, Nat.le_of_ble_eq_true rfl⟩, Nat.le_of_ble_eq_true rfl, Nat.le_of_ble_eq_true rfl⟩ (Nat.le_of_ble_eq_true rfl) rfl [0, 1] rfl rfl dX6_elementAt_2 ?_
  intro _ _
  dsimp only [jpush]
  refine J.if_eqB g dX6_elementAt_5 (tgt := 17) (by decide) (fun c_5 => absurd c_5 (by simp [hi])) (fun c_5 => ?_)
  refine J.aload_n g dX6_elementAt_8 rfl rfl ?_
  refine J.get g jX6 0 (by decide) lf_X6_9 0 rfl rfl dX6_elementAt_9 ?_
  refine J.iload_n g dX6_elementAt_12 rfl rfl ?_
  refine J.ialdN g 1 rfl (by omega) (by decide) dX6_elementAt_13 ?_
  refine J.goto g dX6_elementAt_14 (tgt := 18) (by decide) ?_
  exact J.iret g hE () rfl trivial rfl ⟨Nat.le_of_ble_eq_true rfl, Nat.le_of_ble_eq_true rfl⟩ dX6_elementAt_18
set_option maxHeartbeats 4000000 in
set_option maxRecDepth 100000 in
theorem c_X6_wholeSet (l : Launch) (γ : jγ) (a e n : Nat) (f : Nat → Nat) (hn : n ≤ 12) : jM (S := Unit) l γ yX6_wholeSet cX6_wholeSet 1 (some .int) ({ frames := 0, cells := 0, slots := 0, locals := 0 } : Room) [.ref a] [(a, .inr (6, [.ref e, .int (nI n)])), (e, .inl (γ.2 0, 12, .inl (fun j => nI (f j))))] (fun w0 => some (.int (nI (2 ^ n - 1)))) (fun w0 => [(a, .inr (6, [.ref e, .int (nI n)])), (e, .inl (γ.2 0, 12, .inl (fun j => nI (f j))))]) (fun w0 => True) := by
  refine jM.of [some (.ref a)] rfl (Nat.le_of_ble_eq_true rfl) (by decide) ?_
  intro x g hE hin
  refine J.iconstN g 1 dX6_wholeSet_0 ?_
  refine J.aload_n g dX6_wholeSet_1 rfl rfl ?_
  refine J.get g jX6 1 (by decide) lf_X6_15 0 rfl rfl dX6_wholeSet_2 ?_
  refine J.ishl' g dX6_wholeSet_5 (j_pow (by omega)) ?_
  refine J.iconstN g 1 dX6_wholeSet_6 ?_
  refine J.isubN g dX6_wholeSet_7 Nat.one_le_two_pow ?_
  exact J.iret g hE () rfl trivial rfl ⟨Nat.le_of_ble_eq_true rfl, Nat.le_of_ble_eq_true rfl⟩ dX6_wholeSet_8
set_option maxHeartbeats 4000000 in
set_option maxRecDepth 100000 in
theorem c_X6_append (l : Launch) (γ : jγ) (a e n : Nat) (f : Nat → Nat) (g : Nat) (hn : n < 12) : jM (S := Unit) l γ yX6_append cX6_append 2 (some .boolean) ({ frames := 0, cells := 0, slots := 0, locals := 0 } : Room) [.ref a, .int (nI g)] [(a, .inr (6, [.ref e, .int (nI n)])), (e, .inl (γ.2 0, 12, .inl (fun j => nI (f j))))] (fun w0 => some (.int (jB true))) (fun w0 => [(a, .inr (6, [.ref e, .int (nI (n + 1))])), (e, .inl (γ.2 0, 12, .inl (fun j => nI ((va_up f n g) j))))]) (fun w0 => True) := by
  refine jM.of [some (.ref a), some (.int (nI g))] rfl (Nat.le_of_ble_eq_true rfl) (by decide) ?_
  intro x g hE hin
  refine J.aload_n g dX6_append_0 rfl rfl ?_
  refine J.get g jX6 1 (by decide) lf_X6_15 0 rfl rfl dX6_append_1 ?_
  refine J.if_ltN g dX6_append_4 (tgt := 16) (by decide) (by omega) ?_
  refine J.aload_n g dX6_append_7 rfl rfl ?_
  refine J.get g jX6 1 (by decide) lf_X6_15 0 rfl rfl dX6_append_8 ?_
  refine J.bipush (v := nI 12) g dX6_append_11 (by decide +kernel) ?_
  refine J.icmp_ltN g dX6_append_13 (tgt := 18) (by decide) (by omega) (by omega) (fun c_13 => ?_) (fun c_13 => absurd c_13 (by omega))
  refine J.aload_n g dX6_append_18 rfl rfl ?_
  refine J.get g jX6 0 (by decide) lf_X6_9 0 rfl rfl dX6_append_19 ?_
  refine J.aload_n g dX6_append_22 rfl rfl ?_
  refine J.get g jX6 1 (by decide) lf_X6_15 0 rfl rfl dX6_append_23 ?_
  refine J.iload_n g dX6_append_26 rfl rfl ?_
  refine J.iastN g 1 rfl (by omega) (by decide) dX6_append_27 ?_
  try dsimp only [List.set_cons_zero, List.set_cons_succ]
  refine J.aload_n g dX6_append_28 rfl rfl ?_
  refine J.dup g dX6_append_29 rfl ?_
  refine J.get g jX6 1 (by decide) lf_X6_15 0 rfl rfl dX6_append_30 ?_
  refine J.iconstN g 1 dX6_append_33 ?_
  refine J.iaddN g dX6_append_34 ?_
  refine J.put g jX6 1 (by decide) lf_X6_15 0 rfl rfl (Nat.le_of_ble_eq_true rfl) rfl rfl dX6_append_35 ?_
  try dsimp only [List.set_cons_zero, List.set_cons_succ]
  refine J.iconstN g 1 dX6_append_38 ?_
  exact J.zret (by first | rfl | exact j_nz _) g hE () (jB_t (by rfl)) trivial rfl ⟨Nat.le_of_ble_eq_true rfl, Nat.le_of_ble_eq_true rfl⟩ dX6_append_39
set_option maxHeartbeats 4000000 in
set_option maxRecDepth 100000 in
theorem c_X6_append_full (l : Launch) (γ : jγ) (a e n : Nat) (f : Nat → Nat) (g : Nat) (hn : n = 12) : jM (S := Unit) l γ yX6_append cX6_append 2 (some .boolean) ({ frames := 0, cells := 0, slots := 0, locals := 0 } : Room) [.ref a, .int (nI g)] [(a, .inr (6, [.ref e, .int (nI n)])), (e, .inl (γ.2 0, 12, .inl (fun j => nI (f j))))] (fun w0 => some (.int (jB false))) (fun w0 => [(a, .inr (6, [.ref e, .int (nI n)])), (e, .inl (γ.2 0, 12, .inl (fun j => nI (f j))))]) (fun w0 => True) := by
  refine jM.of [some (.ref a), some (.int (nI g))] rfl (Nat.le_of_ble_eq_true rfl) (by decide) ?_
  intro x g hE hin
  refine J.aload_n g dX6_append_0 rfl rfl ?_
  refine J.get g jX6 1 (by decide) lf_X6_15 0 rfl rfl dX6_append_1 ?_
  refine J.if_ltN g dX6_append_4 (tgt := 16) (by decide) (by omega) ?_
  refine J.aload_n g dX6_append_7 rfl rfl ?_
  refine J.get g jX6 1 (by decide) lf_X6_15 0 rfl rfl dX6_append_8 ?_
  refine J.bipush (v := nI 12) g dX6_append_11 (by decide +kernel) ?_
  refine J.icmp_ltN g dX6_append_13 (tgt := 18) (by decide) (by omega) (by omega) (fun c_13 => absurd c_13 (by omega)) (fun c_13 => ?_)
  refine J.iconstN g 0 dX6_append_16 ?_
  exact J.zret (by first | rfl | exact j_nz _) g hE () (jB_f (by rfl)) trivial rfl ⟨Nat.le_of_ble_eq_true rfl, Nat.le_of_ble_eq_true rfl⟩ dX6_append_17
set_option maxHeartbeats 4000000 in
set_option maxRecDepth 100000 in
theorem c_X6_remove (l : Launch) (γ : jγ) (a e n : Nat) (f : Nat → Nat) (k : Nat) (hn : n ≤ 12) (hk : k < n) : jM (S := Nat → Nat) l γ yX6_remove cX6_remove 3 (some .boolean) ({ frames := 1, cells := 0, slots := 0, locals := 21 } : Room) [.ref a, .int (nI k)] [(a, .inr (6, [.ref e, .int (nI n)])), (e, .inl (γ.2 0, 12, .inl (fun j => nI (f j))))] (fun u => some (.int (jB true))) (fun u => [(a, .inr (6, [.ref e, .int (nI (n - 1))])), (e, .inl (γ.2 0, 12, .inl (fun j => nI (u j))))]) (fun u => ∀ j, u j = if k ≤ j ∧ j < n - 1 then f (j + 1) else f j) := by
  refine jM.of [some (.ref a), some (.int (nI k)), none] rfl (Nat.le_of_ble_eq_true rfl) (by decide) ?_
  intro x g hE hin
  refine J.aload_n g dX6_remove_0 rfl rfl ?_
  refine J.iload_n g dX6_remove_1 rfl rfl ?_
  refine J.callV0 g (c_X6_has_n l γ _ _ _ _ _ (by omega) (by omega)) jy_X6_has lm_X6_19 (q0 := 0) rfl jX6.1 ⟨⟨Nat.le_of_ble_eq_true rfl, Nat.le_of_ble_eq_true rfl⟩, Nat.le_of_ble_eq_true rfl, Nat.le_of_ble_eq_true rfl⟩ (Nat.le_of_ble_eq_true rfl) rfl [0, 1] rfl rfl dX6_remove_2 ?_
  intro _ _
  dsimp only [jpush]
  refine J.if_neB g dX6_remove_5 (tgt := 10) (by decide) (fun c_5 => ?_) (fun c_5 => absurd c_5 (by simp [hk]))
  refine J.iload_n g dX6_remove_10 rfl rfl ?_
  refine J.istore_n g dX6_remove_11 rfl rfl rfl ?_
  try dsimp only [List.set_cons_zero, List.set_cons_succ]
  have lp : ∀ (d : Nat) (i : Nat) (h : Nat → Nat), n - i < d → (k ≤ i ∧ i ≤ n - 1) → (∀ j, h j = if k ≤ j ∧ j < i then f (j + 1) else f j) → J γ l x [(a, .inr (6, [.ref e, .int (nI n)])), (e, .inl (γ.2 0, 12, .inl (fun j => nI (h j))))] [some (.ref a), some (.int (nI k)), some (.int (nI i))] [] 0 0 12 := by
    intro d
    induction d with
    | zero => intro i h hm; exact absurd hm (Nat.not_lt_zero _)
    | succ d ih_lp =>
      intro i h hm hi hh
      refine J.iload_n g dX6_remove_12 rfl rfl ?_
      refine J.iconstN g 1 dX6_remove_13 ?_
      refine J.iaddN g dX6_remove_14 ?_
      refine J.aload_n g dX6_remove_15 rfl rfl ?_
      refine J.get g jX6 1 (by decide) lf_X6_15 0 rfl rfl dX6_remove_16 ?_
      refine J.icmp_geN g dX6_remove_19 (tgt := 50) (by decide) (by omega) (by omega) (fun c_19 => ?_) (fun c_19 => ?_)
      · refine J.aload_n g dX6_remove_50 rfl rfl ?_
        refine J.dup g dX6_remove_51 rfl ?_
        refine J.get g jX6 1 (by decide) lf_X6_15 0 rfl rfl dX6_remove_52 ?_
        refine J.iconstN g 1 dX6_remove_55 ?_
        refine J.isubN g dX6_remove_56 (by omega) ?_
        refine J.put g jX6 1 (by decide) lf_X6_15 0 rfl rfl (Nat.le_of_ble_eq_true rfl) rfl rfl dX6_remove_57 ?_
        try dsimp only [List.set_cons_zero, List.set_cons_succ]
        refine J.iconstN g 1 dX6_remove_60 ?_
        exact J.zret (by first | rfl | exact j_nz _) g hE h (jB_t (by rfl)) (by rw [show n - 1 = i by omega]; exact hh) rfl ⟨Nat.le_of_ble_eq_true rfl, Nat.le_of_ble_eq_true rfl⟩ dX6_remove_61
      · refine J.iload_n g dX6_remove_22 rfl rfl ?_
        refine J.iconstN g 1 dX6_remove_23 ?_
        refine J.iaddN g dX6_remove_24 ?_
        refine J.bipush (v := nI 12) g dX6_remove_25 (by decide +kernel) ?_
        refine J.icmp_geN g dX6_remove_27 (tgt := 50) (by decide) (by omega) (by omega) (fun c_27 => ?_) (fun c_27 => ?_)
        · refine J.aload_n g dX6_remove_50 rfl rfl ?_
          refine J.dup g dX6_remove_51 rfl ?_
          refine J.get g jX6 1 (by decide) lf_X6_15 0 rfl rfl dX6_remove_52 ?_
          refine J.iconstN g 1 dX6_remove_55 ?_
          refine J.isubN g dX6_remove_56 (by omega) ?_
          refine J.put g jX6 1 (by decide) lf_X6_15 0 rfl rfl (Nat.le_of_ble_eq_true rfl) rfl rfl dX6_remove_57 ?_
          try dsimp only [List.set_cons_zero, List.set_cons_succ]
          refine J.iconstN g 1 dX6_remove_60 ?_
          exact J.zret (by first | rfl | exact j_nz _) g hE h (jB_t (by rfl)) (by rw [show n - 1 = i by omega]; exact hh) rfl ⟨Nat.le_of_ble_eq_true rfl, Nat.le_of_ble_eq_true rfl⟩ dX6_remove_61
        · refine J.aload_n g dX6_remove_30 rfl rfl ?_
          refine J.get g jX6 0 (by decide) lf_X6_9 0 rfl rfl dX6_remove_31 ?_
          refine J.iload_n g dX6_remove_34 rfl rfl ?_
          refine J.aload_n g dX6_remove_35 rfl rfl ?_
          refine J.get g jX6 0 (by decide) lf_X6_9 0 rfl rfl dX6_remove_36 ?_
          refine J.iload_n g dX6_remove_39 rfl rfl ?_
          refine J.iconstN g 1 dX6_remove_40 ?_
          refine J.iaddN g dX6_remove_41 ?_
          refine J.ialdN g 1 rfl (by omega) (by decide) dX6_remove_42 ?_
          refine J.iastN g 1 rfl (by omega) (by decide) dX6_remove_43 ?_
          try dsimp only [List.set_cons_zero, List.set_cons_succ]
          refine J.iincN g 1 dX6_remove_44 rfl rfl ?_
          try dsimp only [List.set_cons_zero, List.set_cons_succ]
          refine J.goto g dX6_remove_47 (tgt := 12) (by decide) ?_
          exact J.lvle (jle_s (jle_s (jle_s jle_0))) (ih_lp (i + 1) (va_up h i (h (i + 1))) (by omega) (by omega) (jrem_step hi.1 hh))
  exact J.lvle (jle_s (jle_s (jle_s jle_0))) (lp _ k f (Nat.lt_succ_self _) (by omega) (fun j => by rw [if_neg (by omega)]))
set_option maxHeartbeats 4000000 in
set_option maxRecDepth 100000 in
theorem c_X6_multiply (l : Launch) (γ : jγ) (a e n : Nat) (f : Nat → Nat) (gr mk ag cd pt od ex : Nat) (mf af : Nat → Nat) (u : Nat) (hn : n ≤ 12) (hT : jtab od mf af) (hf : ∀ j, j < n → f j < 24) (hu : u < 2 ^ 30) : jM (S := Nat → Nat) l γ yX6_multiply cX6_multiply 4 none ({ frames := 3, cells := 0, slots := 0, locals := 67 } : Room) [.ref a, .ref gr, .int (nI u)] [(a, .inr (6, [.ref e, .int (nI n)])), (e, .inl (γ.2 0, 12, .inl (fun j => nI (f j)))), (gr, .inr (0, [.ref mk, .ref ag, .int (nI cd), .int (nI pt), .int (nI od), .int (nI ex)])), (mk, .inl (γ.2 1, 576, .inl (fun j => nI (mf j)))), (ag, .inl (γ.2 1, 24, .inl (fun j => nI (af j))))] (fun w0 => none) (fun w0 => [(a, .inr (6, [.ref e, .int (nI n)])), (e, .inl (γ.2 0, 12, .inl (fun j => nI (w0 j)))), (gr, .inr (0, [.ref mk, .ref ag, .int (nI cd), .int (nI pt), .int (nI od), .int (nI ex)])), (mk, .inl (γ.2 1, 576, .inl (fun j => nI (mf j)))), (ag, .inl (γ.2 1, 24, .inl (fun j => nI (af j))))]) (fun w0 => ∀ j, j < n → w0 j = jmul od mf (f j) u) := by
  refine jM.of [some (.ref a), some (.ref gr), some (.int (nI u)), none] rfl (Nat.le_of_ble_eq_true rfl) (by decide) ?_
  intro x g hE hin
  refine J.iconstN g 0 dX6_multiply_0 ?_
  refine J.istore_n g dX6_multiply_1 rfl rfl rfl ?_
  try dsimp only [List.set_cons_zero, List.set_cons_succ]
  have lp : ∀ (d : Nat) (i : Nat) (h : Nat → Nat), n - i < d → (i ≤ n) → (∀ j, h j = if j < i then jmul od mf (f j) u else f j) → J γ l x [(a, .inr (6, [.ref e, .int (nI n)])), (e, .inl (γ.2 0, 12, .inl (fun j => nI (h j)))), (gr, .inr (0, [.ref mk, .ref ag, .int (nI cd), .int (nI pt), .int (nI od), .int (nI ex)])), (mk, .inl (γ.2 1, 576, .inl (fun j => nI (mf j)))), (ag, .inl (γ.2 1, 24, .inl (fun j => nI (af j))))] [some (.ref a), some (.ref gr), some (.int (nI u)), some (.int (nI i))] [] 0 0 2 := by
    intro d
    induction d with
    | zero => intro i h hm; exact absurd hm (Nat.not_lt_zero _)
    | succ d ih_lp =>
      intro i h hm hi hh
      refine J.iload_n g dX6_multiply_2 rfl rfl ?_
      refine J.aload_n g dX6_multiply_3 rfl rfl ?_
      refine J.get g jX6 1 (by decide) lf_X6_15 0 rfl rfl dX6_multiply_4 ?_
      refine J.icmp_geN g dX6_multiply_7 (tgt := 39) (by decide) (by omega) (by omega) (fun c_7 => ?_) (fun c_7 => ?_)
      · exact J.vret g hE h rfl (fun j hj => by rw [hh, if_pos (by omega)]) rfl ⟨Nat.le_of_ble_eq_true rfl, Nat.le_of_ble_eq_true rfl⟩ dX6_multiply_39
      · refine J.iload_n g dX6_multiply_10 rfl rfl ?_
        refine J.bipush (v := nI 12) g dX6_multiply_11 (by decide +kernel) ?_
        refine J.icmp_geN g dX6_multiply_13 (tgt := 39) (by decide) (by omega) (by omega) (fun c_13 => absurd c_13 (by omega)) (fun c_13 => ?_)
        refine J.aload_n g dX6_multiply_16 rfl rfl ?_
        refine J.get g jX6 0 (by decide) lf_X6_9 0 rfl rfl dX6_multiply_17 ?_
        refine J.iload_n g dX6_multiply_20 rfl rfl ?_
        refine J.aload_n g dX6_multiply_21 rfl rfl ?_
        refine J.aload_n g dX6_multiply_22 rfl rfl ?_
        refine J.get g jX6 0 (by decide) lf_X6_9 0 rfl rfl dX6_multiply_23 ?_
        refine J.iload_n g dX6_multiply_26 rfl rfl ?_
        refine J.ialdN g 1 rfl (by omega) (by decide) dX6_multiply_27 ?_
        refine J.iload_n g dX6_multiply_28 rfl rfl ?_
        have hz : h i = f i := by rw [hh, if_neg (by omega)]
        rw [hz]
        refine J.callV0 g (c_X0_multiple l γ _ _ _ _ _ _ _ _ _ _ _ hT (hf i (by omega)) hu) jy_X0_multiple lm_X6_23 (q0 := 2) rfl jX0.1 ⟨⟨Nat.le_of_ble_eq_true rfl, Nat.le_of_ble_eq_true rfl⟩, Nat.le_of_ble_eq_true rfl, Nat.le_of_ble_eq_true rfl⟩ (Nat.le_of_ble_eq_true rfl) rfl [2, 3, 4] rfl rfl dX6_multiply_29 ?_
        intro _ _
        dsimp only [jpush]
        refine J.iastN g 1 rfl (by omega) (by decide) dX6_multiply_32 ?_
        try dsimp only [List.set_cons_zero, List.set_cons_succ]
        refine J.iincN g 1 dX6_multiply_33 rfl rfl ?_
        try dsimp only [List.set_cons_zero, List.set_cons_succ]
        refine J.goto g dX6_multiply_36 (tgt := 2) (by decide) ?_
        exact J.lvle (jle_s (jle_s (jle_s (jle_s jle_0)))) (ih_lp (i + 1) (va_up h i (jmul od mf (f i) u)) (by omega) (by omega) (jmu_step (F := fun j => jmul od mf (f j) u) hh))
  exact J.lvle (jle_s (jle_s (jle_s (jle_s jle_0)))) (lp _ 0 f (Nat.lt_succ_self _) (Nat.zero_le _) (fun j => by rw [if_neg (by omega)]))
set_option maxHeartbeats 4000000 in
set_option maxRecDepth 100000 in
theorem c_X6_putInOrder (l : Launch) (γ : jγ) (a e n : Nat) (f : Nat → Nat) (hn : n ≤ 12) (hf : ∀ j, j < n → f j < 24) : jM (S := Unit) l γ yX6_putInOrder cX6_putInOrder 4 none ({ frames := 0, cells := 0, slots := 0, locals := 0 } : Room) [.ref a] [(a, .inr (6, [.ref e, .int (nI n)])), (e, .inl (γ.2 0, 12, .inl (fun j => nI (f j))))] (fun w0 => none) (fun w0 => [(a, .inr (6, [.ref e, .int (nI n)])), (e, .inl (γ.2 0, 12, .inl (fun j => nI ((jsrt f (n - 1)) j))))]) (fun w0 => True) := by
  refine jM.of [some (.ref a), none, none, none] rfl (Nat.le_of_ble_eq_true rfl) (by decide) ?_
  intro x g hE hin
  have hb : ∀ v : Nat, v < 24 → v < 2 ^ 31 := fun v h => by omega
  refine J.iconstN g 1 dX6_putInOrder_0 ?_
  refine J.istore_n g dX6_putInOrder_1 rfl rfl rfl ?_
  try dsimp only [List.set_cons_zero, List.set_cons_succ]
  have lp : ∀ (d : Nat) (i : Nat), n - i < d → (i ≤ n - 1) → J γ l x [(a, .inr (6, [.ref e, .int (nI n)])), (e, .inl (γ.2 0, 12, .inl (fun j => nI ((jsrt f i) j))))] [some (.ref a), some (.int (nI (i + 1))), none, none] [] 0 0 2 := by
    intro d
    induction d with
    | zero => intro i hm; exact absurd hm (Nat.not_lt_zero _)
    | succ d ih_lp =>
      intro i hm hi
      refine J.iload_n g dX6_putInOrder_2 rfl rfl ?_
      refine J.aload_n g dX6_putInOrder_3 rfl rfl ?_
      refine J.get g jX6 1 (by decide) lf_X6_15 0 rfl rfl dX6_putInOrder_4 ?_
      refine J.icmp_geN g dX6_putInOrder_7 (tgt := 74) (by decide) (by omega) (by omega) (fun c_7 => ?_) (fun c_7 => ?_)
      · exact J.vret g hE () rfl trivial (by rw [show n - 1 = i by omega]) ⟨Nat.le_of_ble_eq_true rfl, Nat.le_of_ble_eq_true rfl⟩ dX6_putInOrder_74
      · refine J.iload_n g dX6_putInOrder_10 rfl rfl ?_
        refine J.bipush (v := nI 12) g dX6_putInOrder_11 (by decide +kernel) ?_
        refine J.icmp_geN g dX6_putInOrder_13 (tgt := 74) (by decide) (by omega) (by omega) (fun c_13 => absurd c_13 (by omega)) (fun c_13 => ?_)
        refine J.aload_n g dX6_putInOrder_16 rfl rfl ?_
        refine J.get g jX6 0 (by decide) lf_X6_9 0 rfl rfl dX6_putInOrder_17 ?_
        refine J.iload_n g dX6_putInOrder_20 rfl rfl ?_
        refine J.ialdN g 1 rfl (by omega) (by decide) dX6_putInOrder_21 ?_
        refine J.istore_n g dX6_putInOrder_22 rfl rfl rfl ?_
        try dsimp only [List.set_cons_zero, List.set_cons_succ]
        refine J.iload_n g dX6_putInOrder_23 rfl rfl ?_
        refine J.istore_n g dX6_putInOrder_24 rfl rfl rfl ?_
        try dsimp only [List.set_cons_zero, List.set_cons_succ]
        have lq : ∀ (d : Nat) (p : Nat) (h : Nat → Nat), p < d → (p ≤ i + 1) → (jins (jsrt f i (i + 1)) p h = jsrt f (i + 1)) → (∀ j, j < n → h j < 24) → J γ l x [(a, .inr (6, [.ref e, .int (nI n)])), (e, .inl (γ.2 0, 12, .inl (fun j => nI (h j))))] [some (.ref a), some (.int (nI (i + 1))), some (.int (nI (jsrt f i (i + 1)))), some (.int (nI p))] [] 0 0 25 := by
          intro d
          induction d with
          | zero => intro p h hm; exact absurd hm (Nat.not_lt_zero _)
          | succ d ih_lq =>
            intro p h hm hp hr hb2
            refine J.iload_n g dX6_putInOrder_25 rfl rfl ?_
            refine J.if_leN g dX6_putInOrder_26 (tgt := 61) (by decide) (by omega) (fun c_26 => ?_) (fun c_26 => ?_)
            · subst c_26
              have hq := hr.symm
              refine J.aload_n g dX6_putInOrder_61 rfl rfl ?_
              refine J.get g jX6 0 (by decide) lf_X6_9 0 rfl rfl dX6_putInOrder_62 ?_
              refine J.iload_n g dX6_putInOrder_65 rfl rfl ?_
              refine J.iload_n g dX6_putInOrder_66 rfl rfl ?_
              refine J.iastN g 1 rfl (by omega) (by decide) dX6_putInOrder_67 ?_
              try dsimp only [List.set_cons_zero, List.set_cons_succ]
              refine J.iincN g 1 dX6_putInOrder_68 rfl rfl ?_
              try dsimp only [List.set_cons_zero, List.set_cons_succ]
              refine J.goto g dX6_putInOrder_71 (tgt := 2) (by decide) ?_
              have ih2 := ih_lp (i + 1) (by omega) (by omega)
              rw [hq] at ih2
              exact J.lvle (jle_s (jle_s (jle_n (jle_n jle_0)))) ih2
            · obtain ⟨q, rfl⟩ : ∃ q, p = q + 1 := ⟨p - 1, by omega⟩
              refine J.aload_n g dX6_putInOrder_29 rfl rfl ?_
              refine J.get g jX6 0 (by decide) lf_X6_9 0 rfl rfl dX6_putInOrder_30 ?_
              refine J.iload_n g dX6_putInOrder_33 rfl rfl ?_
              refine J.iconstN g 1 dX6_putInOrder_34 ?_
              refine J.isubN g dX6_putInOrder_35 (by omega) ?_
              refine J.ialdN g 1 rfl (by omega) (by decide) dX6_putInOrder_36 ?_
              refine J.iload_n g dX6_putInOrder_37 rfl rfl ?_
              have q1 := hb2 q (by omega)
              have q2 := jsrt_24 hf i (by omega) (i + 1) (by omega)
              rw [Nat.add_sub_cancel]
              refine J.icmp_leN g dX6_putInOrder_38 (tgt := 61) (by decide) (by omega) (by omega) (fun c_38 => ?_) (fun c_38 => ?_)
              · have hq : jsrt f (i + 1) = va_up h (q + 1) (jsrt f i (i + 1)) := by rw [← hr, jins, if_neg (by omega)]
                refine J.aload_n g dX6_putInOrder_61 rfl rfl ?_
                refine J.get g jX6 0 (by decide) lf_X6_9 0 rfl rfl dX6_putInOrder_62 ?_
                refine J.iload_n g dX6_putInOrder_65 rfl rfl ?_
                refine J.iload_n g dX6_putInOrder_66 rfl rfl ?_
                refine J.iastN g 1 rfl (by omega) (by decide) dX6_putInOrder_67 ?_
                try dsimp only [List.set_cons_zero, List.set_cons_succ]
                refine J.iincN g 1 dX6_putInOrder_68 rfl rfl ?_
                try dsimp only [List.set_cons_zero, List.set_cons_succ]
                refine J.goto g dX6_putInOrder_71 (tgt := 2) (by decide) ?_
                have ih2 := ih_lp (i + 1) (by omega) (by omega)
                rw [hq] at ih2
                exact J.lvle (jle_s (jle_s (jle_n (jle_n jle_0)))) ih2
              · refine J.aload_n g dX6_putInOrder_41 rfl rfl ?_
                refine J.get g jX6 0 (by decide) lf_X6_9 0 rfl rfl dX6_putInOrder_42 ?_
                refine J.iload_n g dX6_putInOrder_45 rfl rfl ?_
                refine J.aload_n g dX6_putInOrder_46 rfl rfl ?_
                refine J.get g jX6 0 (by decide) lf_X6_9 0 rfl rfl dX6_putInOrder_47 ?_
                refine J.iload_n g dX6_putInOrder_50 rfl rfl ?_
                refine J.iconstN g 1 dX6_putInOrder_51 ?_
                refine J.isubN g dX6_putInOrder_52 (by omega) ?_
                refine J.ialdN g 1 rfl (by omega) (by decide) dX6_putInOrder_53 ?_
                refine J.iastN g 1 rfl (by omega) (by decide) dX6_putInOrder_54 ?_
                try dsimp only [List.set_cons_zero, List.set_cons_succ]
                refine J.idecN g dX6_putInOrder_55 rfl rfl (by omega) ?_
                try dsimp only [List.set_cons_zero, List.set_cons_succ]
                refine J.goto g dX6_putInOrder_58 (tgt := 25) (by decide) ?_
                exact J.lvle (jle_s (jle_s (jle_s (jle_s jle_0)))) (ih_lq _ _ (by omega) (by omega) (by rw [← hr, jins, if_pos c_38]; rfl) (fun j hj => by unfold va_up; split <;> first | exact hb2 q (by omega) | exact hb2 j hj))
        exact J.lvle (jle_s (jle_s (jle_s (jle_s jle_0)))) (lq _ (i + 1) (jsrt f i) (Nat.lt_succ_self _) (Nat.le_refl _) rfl (jsrt_24 hf i (by omega)))
  exact J.lvle (jle_s (jle_s (jle_n (jle_n jle_0)))) (lp _ 0 (Nat.lt_succ_self _) (Nat.zero_le _))
set_option maxHeartbeats 4000000 in
set_option maxRecDepth 100000 in
theorem c_X6_isLessThan (l : Launch) (γ : jγ) (a e n : Nat) (f : Nat → Nat) (a2 e2 n2 : Nat) (f2 : Nat → Nat) (hn : n ≤ 12) (hf : ∀ j, j < n → f j < 24) (hf2 : ∀ j, j < n → f2 j < 24) : jM (S := Unit) l γ yX6_isLessThan cX6_isLessThan 3 (some .boolean) ({ frames := 0, cells := 0, slots := 0, locals := 0 } : Room) [.ref a, .ref a2] [(a, .inr (6, [.ref e, .int (nI n)])), (e, .inl (γ.2 0, 12, .inl (fun j => nI (f j)))), (a2, .inr (6, [.ref e2, .int (nI n2)])), (e2, .inl (γ.2 0, 12, .inl (fun j => nI (f2 j))))] (fun w0 => some (.int (jB (jlt f f2 n 0)))) (fun w0 => [(a, .inr (6, [.ref e, .int (nI n)])), (e, .inl (γ.2 0, 12, .inl (fun j => nI (f j)))), (a2, .inr (6, [.ref e2, .int (nI n2)])), (e2, .inl (γ.2 0, 12, .inl (fun j => nI (f2 j))))]) (fun w0 => True) := by
  refine jM.of [some (.ref a), some (.ref a2), none] rfl (Nat.le_of_ble_eq_true rfl) (by decide) ?_
  intro x g hE hin
  refine J.iconstN g 0 dX6_isLessThan_0 ?_
  refine J.istore_n g dX6_isLessThan_1 rfl rfl rfl ?_
  try dsimp only [List.set_cons_zero, List.set_cons_succ]
  have lp : ∀ (d : Nat) (i : Nat), n - i < d → (i ≤ n) → (jlt f f2 n 0 = jlt f f2 (n - i) i) → J γ l x [(a, .inr (6, [.ref e, .int (nI n)])), (e, .inl (γ.2 0, 12, .inl (fun j => nI (f j)))), (a2, .inr (6, [.ref e2, .int (nI n2)])), (e2, .inl (γ.2 0, 12, .inl (fun j => nI (f2 j))))] [some (.ref a), some (.ref a2), some (.int (nI i))] [] 0 0 2 := by
    intro d
    induction d with
    | zero => intro i hm; exact absurd hm (Nat.not_lt_zero _)
    | succ d ih_lp =>
      intro i hm hi hr
      refine J.iload_n g dX6_isLessThan_2 rfl rfl ?_
      refine J.aload_n g dX6_isLessThan_3 rfl rfl ?_
      refine J.get g jX6 1 (by decide) lf_X6_15 0 rfl rfl dX6_isLessThan_4 ?_
      refine J.icmp_geN g dX6_isLessThan_7 (tgt := 58) (by decide) (by omega) (by omega) (fun c_7 => ?_) (fun c_7 => ?_)
      · refine J.iconstN g 0 dX6_isLessThan_58 ?_
        exact J.zret (by first | rfl | exact j_nz _) g hE () (jB_f (by first | exact hr.trans (jlt_0 c_7) | exact hr.trans ((jlt_n (by omega) c_28).trans (by simp; omega)))) trivial rfl ⟨Nat.le_of_ble_eq_true rfl, Nat.le_of_ble_eq_true rfl⟩ dX6_isLessThan_59
      · refine J.iload_n g dX6_isLessThan_10 rfl rfl ?_
        refine J.bipush (v := nI 12) g dX6_isLessThan_11 (by decide +kernel) ?_
        refine J.icmp_geN g dX6_isLessThan_13 (tgt := 58) (by decide) (by omega) (by omega) (fun c_13 => absurd c_13 (by omega)) (fun c_13 => ?_)
        refine J.aload_n g dX6_isLessThan_16 rfl rfl ?_
        refine J.get g jX6 0 (by decide) lf_X6_9 0 rfl rfl dX6_isLessThan_17 ?_
        refine J.iload_n g dX6_isLessThan_20 rfl rfl ?_
        refine J.ialdN g 1 rfl (by omega) (by decide) dX6_isLessThan_21 ?_
        refine J.aload_n g dX6_isLessThan_22 rfl rfl ?_
        refine J.get g jX6 0 (by decide) lf_X6_9 2 rfl rfl dX6_isLessThan_23 ?_
        refine J.iload_n g dX6_isLessThan_26 rfl rfl ?_
        refine J.ialdN g 3 rfl (by omega) (by decide) dX6_isLessThan_27 ?_
        have q1 := hf i (by omega)
        have q2 := hf2 i (by omega)
        refine J.icmp_eqN g dX6_isLessThan_28 (tgt := 52) (by decide) (by omega) (by omega) (fun c_28 => ?_) (fun c_28 => ?_)
        · refine J.iincN g 1 dX6_isLessThan_52 rfl rfl ?_
          try dsimp only [List.set_cons_zero, List.set_cons_succ]
          refine J.goto g dX6_isLessThan_55 (tgt := 2) (by decide) ?_
          exact J.lvle (jle_s (jle_s (jle_s jle_0))) (ih_lp (i + 1) (by omega) (by omega) (hr.trans (jlt_e (by omega) c_28)))
        · refine J.aload_n g dX6_isLessThan_31 rfl rfl ?_
          refine J.get g jX6 0 (by decide) lf_X6_9 0 rfl rfl dX6_isLessThan_32 ?_
          refine J.iload_n g dX6_isLessThan_35 rfl rfl ?_
          refine J.ialdN g 1 rfl (by omega) (by decide) dX6_isLessThan_36 ?_
          refine J.aload_n g dX6_isLessThan_37 rfl rfl ?_
          refine J.get g jX6 0 (by decide) lf_X6_9 2 rfl rfl dX6_isLessThan_38 ?_
          refine J.iload_n g dX6_isLessThan_41 rfl rfl ?_
          refine J.ialdN g 3 rfl (by omega) (by decide) dX6_isLessThan_42 ?_
          refine J.icmp_geN g dX6_isLessThan_43 (tgt := 50) (by decide) (by omega) (by omega) (fun c_43 => ?_) (fun c_43 => ?_)
          · refine J.iconstN g 0 dX6_isLessThan_50 ?_
            exact J.zret (by first | rfl | exact j_nz _) g hE () (jB_f (by first | exact hr.trans (jlt_0 c_7) | exact hr.trans ((jlt_n (by omega) c_28).trans (by simp; omega)))) trivial rfl ⟨Nat.le_of_ble_eq_true rfl, Nat.le_of_ble_eq_true rfl⟩ dX6_isLessThan_51
          · refine J.iconstN g 1 dX6_isLessThan_46 ?_
            refine J.goto g dX6_isLessThan_47 (tgt := 51) (by decide) ?_
            exact J.zret (by first | rfl | exact j_nz _) g hE () (jB_t (by first | exact hr.trans (jlt_0 c_7) | exact hr.trans ((jlt_n (by omega) c_28).trans (by simp; omega)))) trivial rfl ⟨Nat.le_of_ble_eq_true rfl, Nat.le_of_ble_eq_true rfl⟩ dX6_isLessThan_51
  exact J.lvle (jle_s (jle_s (jle_s jle_0))) (lp _ 0 (Nat.lt_succ_self _) (Nat.zero_le _) rfl)
set_option maxHeartbeats 4000000 in
set_option maxRecDepth 100000 in
theorem c_X6_isSameAs (l : Launch) (γ : jγ) (a e n : Nat) (f : Nat → Nat) (a2 e2 n2 : Nat) (f2 : Nat → Nat) (hn : n ≤ 12) (hn2 : n2 ≤ 12) (hf : ∀ j, j < n → f j < 24) (hf2 : ∀ j, j < n2 → f2 j < 24) : jM (S := Unit) l γ yX6_isSameAs cX6_isSameAs 2 (some .boolean) ({ frames := 1, cells := 0, slots := 0, locals := 22 } : Room) [.ref a, .ref a2] [(a, .inr (6, [.ref e, .int (nI n)])), (e, .inl (γ.2 0, 12, .inl (fun j => nI (f j)))), (a2, .inr (6, [.ref e2, .int (nI n2)])), (e2, .inl (γ.2 0, 12, .inl (fun j => nI (f2 j))))] (fun w0 => some (.int (jB (decide (n = n2) && !jlt f f2 n 0 && !jlt f2 f n2 0)))) (fun w0 => [(a, .inr (6, [.ref e, .int (nI n)])), (e, .inl (γ.2 0, 12, .inl (fun j => nI (f j)))), (a2, .inr (6, [.ref e2, .int (nI n2)])), (e2, .inl (γ.2 0, 12, .inl (fun j => nI (f2 j))))]) (fun w0 => True) := by
  refine jM.of [some (.ref a), some (.ref a2)] rfl (Nat.le_of_ble_eq_true rfl) (by decide) ?_
  intro x g hE hin
  refine J.aload_n g dX6_isSameAs_0 rfl rfl ?_
  refine J.get g jX6 1 (by decide) lf_X6_15 0 rfl rfl dX6_isSameAs_1 ?_
  refine J.aload_n g dX6_isSameAs_4 rfl rfl ?_
  refine J.get g jX6 1 (by decide) lf_X6_15 2 rfl rfl dX6_isSameAs_5 ?_
  refine J.icmp_neN g dX6_isSameAs_8 (tgt := 31) (by decide) (by omega) (by omega) (fun c_8 => ?_) (fun c_8 => ?_)
  · refine J.iconstN g 0 dX6_isSameAs_31 ?_
    exact J.zret (by first | rfl | exact j_nz _) g hE () (jB_f (by simp_all)) trivial rfl ⟨Nat.le_of_ble_eq_true rfl, Nat.le_of_ble_eq_true rfl⟩ dX6_isSameAs_32
  · refine J.aload_n g dX6_isSameAs_11 rfl rfl ?_
    refine J.aload_n g dX6_isSameAs_12 rfl rfl ?_
    refine J.callV0 g (c_X6_isLessThan l γ _ _ _ _ _ _ _ _ hn hf (fun j hj => hf2 j (by omega))) jy_X6_isLessThan lm_X6_29 (q0 := 0) rfl jX6.1 ⟨⟨Nat.le_of_ble_eq_true rfl, Nat.le_of_ble_eq_true rfl⟩, Nat.le_of_ble_eq_true rfl, Nat.le_of_ble_eq_true rfl⟩ (Nat.le_of_ble_eq_true rfl) rfl [0, 1, 2, 3] rfl rfl dX6_isSameAs_13 ?_
    intro _ _
    dsimp only [jpush]
    refine J.if_neB g dX6_isSameAs_16 (tgt := 31) (by decide) (fun c_16 => ?_) (fun c_16 => ?_)
    · refine J.iconstN g 0 dX6_isSameAs_31 ?_
      exact J.zret (by first | rfl | exact j_nz _) g hE () (jB_f (by simp_all)) trivial rfl ⟨Nat.le_of_ble_eq_true rfl, Nat.le_of_ble_eq_true rfl⟩ dX6_isSameAs_32
    · refine J.aload_n g dX6_isSameAs_19 rfl rfl ?_
      refine J.aload_n g dX6_isSameAs_20 rfl rfl ?_
      refine J.callV0 g (c_X6_isLessThan l γ _ _ _ _ _ _ _ _ hn2 hf2 (fun j hj => hf j (by omega))) jy_X6_isLessThan lm_X6_29 (q0 := 2) rfl jX6.1 ⟨⟨Nat.le_of_ble_eq_true rfl, Nat.le_of_ble_eq_true rfl⟩, Nat.le_of_ble_eq_true rfl, Nat.le_of_ble_eq_true rfl⟩ (Nat.le_of_ble_eq_true rfl) rfl [2, 3, 0, 1] rfl rfl dX6_isSameAs_21 ?_
      intro _ _
      dsimp only [jpush]
      refine J.if_neB g dX6_isSameAs_24 (tgt := 31) (by decide) (fun c_24 => ?_) (fun c_24 => ?_)
      · refine J.iconstN g 0 dX6_isSameAs_31 ?_
        exact J.zret (by first | rfl | exact j_nz _) g hE () (jB_f (by simp_all)) trivial rfl ⟨Nat.le_of_ble_eq_true rfl, Nat.le_of_ble_eq_true rfl⟩ dX6_isSameAs_32
      · refine J.iconstN g 1 dX6_isSameAs_27 ?_
        refine J.goto g dX6_isSameAs_28 (tgt := 32) (by decide) ?_
        exact J.zret (by first | rfl | exact j_nz _) g hE () (jB_t (by simp_all)) trivial rfl ⟨Nat.le_of_ble_eq_true rfl, Nat.le_of_ble_eq_true rfl⟩ dX6_isSameAs_32
set_option maxHeartbeats 4000000 in
set_option maxRecDepth 100000 in
theorem c_X6_sumOfSet (l : Launch) (γ : jγ) (a e n : Nat) (f : Nat → Nat) (gr mk ag cd pt od ex : Nat) (mf af : Nat → Nat) (s : Nat) (hn : n ≤ 12) (hT : jtab od mf af) (hf : ∀ j, j < n → f j < 24) (hs : s < 2 ^ 31) : jM (S := Unit) l γ yX6_sumOfSet cX6_sumOfSet 5 (some .int) ({ frames := 2, cells := 0, slots := 0, locals := 43 } : Room) [.ref a, .ref gr, .int (nI s)] [(a, .inr (6, [.ref e, .int (nI n)])), (e, .inl (γ.2 0, 12, .inl (fun j => nI (f j)))), (gr, .inr (0, [.ref mk, .ref ag, .int (nI cd), .int (nI pt), .int (nI od), .int (nI ex)])), (mk, .inl (γ.2 1, 576, .inl (fun j => nI (mf j)))), (ag, .inl (γ.2 1, 24, .inl (fun j => nI (af j))))] (fun w0 => some (.int (nI (jsum od mf f s n)))) (fun w0 => [(a, .inr (6, [.ref e, .int (nI n)])), (e, .inl (γ.2 0, 12, .inl (fun j => nI (f j)))), (gr, .inr (0, [.ref mk, .ref ag, .int (nI cd), .int (nI pt), .int (nI od), .int (nI ex)])), (mk, .inl (γ.2 1, 576, .inl (fun j => nI (mf j)))), (ag, .inl (γ.2 1, 24, .inl (fun j => nI (af j))))]) (fun w0 => True) := by
  refine jM.of [some (.ref a), some (.ref gr), some (.int (nI s)), none, none] rfl (Nat.le_of_ble_eq_true rfl) (by decide) ?_
  intro x g hE hin
  refine J.iconstN g 0 dX6_sumOfSet_0 ?_
  refine J.istore_n g dX6_sumOfSet_1 rfl rfl rfl ?_
  try dsimp only [List.set_cons_zero, List.set_cons_succ]
  refine J.iconstN g 0 dX6_sumOfSet_2 ?_
  refine J.istore g dX6_sumOfSet_3 rfl rfl ?_
  try dsimp only [List.set_cons_zero, List.set_cons_succ]
  have lp : ∀ (d : Nat) (i : Nat), n - i < d → (i ≤ n) → J γ l x [(a, .inr (6, [.ref e, .int (nI n)])), (e, .inl (γ.2 0, 12, .inl (fun j => nI (f j)))), (gr, .inr (0, [.ref mk, .ref ag, .int (nI cd), .int (nI pt), .int (nI od), .int (nI ex)])), (mk, .inl (γ.2 1, 576, .inl (fun j => nI (mf j)))), (ag, .inl (γ.2 1, 24, .inl (fun j => nI (af j))))] [some (.ref a), some (.ref gr), some (.int (nI s)), some (.int (nI (jsum od mf f s i))), some (.int (nI i))] [] 0 0 5 := by
    intro d
    induction d with
    | zero => intro i hm; exact absurd hm (Nat.not_lt_zero _)
    | succ d ih_lp =>
      intro i hm hi
      refine J.iload g dX6_sumOfSet_5 rfl ?_
      refine J.aload_n g dX6_sumOfSet_7 rfl rfl ?_
      refine J.get g jX6 1 (by decide) lf_X6_15 0 rfl rfl dX6_sumOfSet_8 ?_
      refine J.icmp_geN g dX6_sumOfSet_11 (tgt := 49) (by decide) (by omega) (by omega) (fun c_11 => ?_) (fun c_11 => ?_)
      · refine J.iload_n g dX6_sumOfSet_49 rfl rfl ?_
        exact J.iret g hE () (by rw [show i = n by omega]) trivial rfl ⟨Nat.le_of_ble_eq_true rfl, Nat.le_of_ble_eq_true rfl⟩ dX6_sumOfSet_50
      · refine J.iload g dX6_sumOfSet_14 rfl ?_
        refine J.bipush (v := nI 12) g dX6_sumOfSet_16 (by decide +kernel) ?_
        refine J.icmp_geN g dX6_sumOfSet_18 (tgt := 49) (by decide) (by omega) (by omega) (fun c_18 => absurd c_18 (by omega)) (fun c_18 => ?_)
        refine J.iload_n g dX6_sumOfSet_21 rfl rfl ?_
        refine J.iload g dX6_sumOfSet_22 rfl ?_
        refine J.iushr g dX6_sumOfSet_24 (j_ushr (by omega) (by omega)) ?_
        refine J.iconstN g 1 dX6_sumOfSet_25 ?_
        refine J.iand' g dX6_sumOfSet_26 (j_and _ _) ?_
        refine J.if_eqN g dX6_sumOfSet_27 (tgt := 43) (by decide) (by have := @Nat.and_le_right (s >>> i) 1; omega) (fun c_27 => ?_) (fun c_27 => ?_)
        · have hq : jsum od mf f s (i + 1) = jsum od mf f s i := by rw [jsum, if_neg (by rw [jtb0.mp c_27]; decide)]
          refine J.iincN g 1 dX6_sumOfSet_43 rfl rfl ?_
          try dsimp only [List.set_cons_zero, List.set_cons_succ]
          refine J.goto g dX6_sumOfSet_46 (tgt := 5) (by decide) ?_
          have ih2 := ih_lp (i + 1) (by omega) (by omega)
          rw [hq] at ih2
          exact J.lvle (jle_s (jle_s (jle_s (jle_s (jle_s jle_0))))) ih2
        · have hq : jsum od mf f s (i + 1) = jpl od mf (jsum od mf f s i) (f i) := by rw [jsum, if_pos (jtb1.mp c_27)]
          refine J.aload_n g dX6_sumOfSet_30 rfl rfl ?_
          refine J.iload_n g dX6_sumOfSet_31 rfl rfl ?_
          refine J.aload_n g dX6_sumOfSet_32 rfl rfl ?_
          refine J.get g jX6 0 (by decide) lf_X6_9 0 rfl rfl dX6_sumOfSet_33 ?_
          refine J.iload g dX6_sumOfSet_36 rfl ?_
          refine J.ialdN g 1 rfl (by omega) (by decide) dX6_sumOfSet_38 ?_
          refine J.callV0 g (c_X0_plus l γ _ _ _ _ _ _ _ _ _ _ _ hT (by have := jsum_24 hT f s i; omega) (by have := hf i (by omega); omega)) jy_X0_plus lm_X6_33 (q0 := 2) rfl jX0.1 ⟨⟨Nat.le_of_ble_eq_true rfl, Nat.le_of_ble_eq_true rfl⟩, Nat.le_of_ble_eq_true rfl, Nat.le_of_ble_eq_true rfl⟩ (Nat.le_of_ble_eq_true rfl) rfl [2, 3, 4] rfl rfl dX6_sumOfSet_39 ?_
          intro _ _
          dsimp only [jpush]
          refine J.istore_n g dX6_sumOfSet_42 rfl rfl rfl ?_
          try dsimp only [List.set_cons_zero, List.set_cons_succ]
          refine J.iincN g 1 dX6_sumOfSet_43 rfl rfl ?_
          try dsimp only [List.set_cons_zero, List.set_cons_succ]
          refine J.goto g dX6_sumOfSet_46 (tgt := 5) (by decide) ?_
          have ih2 := ih_lp (i + 1) (by omega) (by omega)
          rw [hq] at ih2
          exact J.lvle (jle_s (jle_s (jle_s (jle_s (jle_s jle_0))))) ih2
  exact J.lvle (jle_s (jle_s (jle_s (jle_s (jle_s jle_0))))) (lp _ 0 (Nat.lt_succ_self _) (Nat.zero_le _))
set_option maxHeartbeats 4000000 in
set_option maxRecDepth 100000 in
theorem c_X6_shortestRun (l : Launch) (γ : jγ) (a e n : Nat) (f : Nat → Nat) (gr mk ag cd pt od ex : Nat) (mf af : Nat → Nat) (b gg : Nat) (hn : n ≤ 12) (hT : jtab od mf af) (hf : ∀ j, j < n → f j < 24) (hb : b ≤ n) (hg : gg < 24) : jM (S := Unit) l γ yX6_shortestRun cX6_shortestRun 6 (some .int) ({ frames := 2, cells := 0, slots := 0, locals := 43 } : Room) [.ref a, .ref gr, .int (nI b), .int (nI gg)] [(a, .inr (6, [.ref e, .int (nI n)])), (e, .inl (γ.2 0, 12, .inl (fun j => nI (f j)))), (gr, .inr (0, [.ref mk, .ref ag, .int (nI cd), .int (nI pt), .int (nI od), .int (nI ex)])), (mk, .inl (γ.2 1, 576, .inl (fun j => nI (mf j)))), (ag, .inl (γ.2 1, 24, .inl (fun j => nI (af j))))] (fun w0 => some (.int (jrn od mf f gg b (n - b) b 0))) (fun w0 => [(a, .inr (6, [.ref e, .int (nI n)])), (e, .inl (γ.2 0, 12, .inl (fun j => nI (f j)))), (gr, .inr (0, [.ref mk, .ref ag, .int (nI cd), .int (nI pt), .int (nI od), .int (nI ex)])), (mk, .inl (γ.2 1, 576, .inl (fun j => nI (mf j)))), (ag, .inl (γ.2 1, 24, .inl (fun j => nI (af j))))]) (fun w0 => True) := by
  refine jM.of [some (.ref a), some (.ref gr), some (.int (nI b)), some (.int (nI gg)), none, none] rfl (Nat.le_of_ble_eq_true rfl) (by decide) ?_
  intro x g hE hin
  refine J.iconstN g 0 dX6_shortestRun_0 ?_
  refine J.istore g dX6_shortestRun_1 rfl rfl ?_
  try dsimp only [List.set_cons_zero, List.set_cons_succ]
  refine J.iload_n g dX6_shortestRun_3 rfl rfl ?_
  refine J.iconstN g 0 dX6_shortestRun_4 ?_
  refine J.mmax g lm_X6_36 jm_max_s jm_i jm_max_c ⟨Nat.le_of_ble_eq_true rfl, Nat.le_of_ble_eq_true rfl, Nat.le_of_ble_eq_true rfl, Nat.le_of_ble_eq_true rfl⟩ (j_max0 (by omega)) dX6_shortestRun_5 ?_
  refine J.istore g dX6_shortestRun_8 rfl rfl ?_
  try dsimp only [List.set_cons_zero, List.set_cons_succ]
  have lp : ∀ (d : Nat) (p w : Nat), n - p < d → (b ≤ p ∧ p ≤ n) → (w < 24) → (jrn od mf f gg b (n - b) b 0 = jrn od mf f gg b (n - p) p w) → J γ l x [(a, .inr (6, [.ref e, .int (nI n)])), (e, .inl (γ.2 0, 12, .inl (fun j => nI (f j)))), (gr, .inr (0, [.ref mk, .ref ag, .int (nI cd), .int (nI pt), .int (nI od), .int (nI ex)])), (mk, .inl (γ.2 1, 576, .inl (fun j => nI (mf j)))), (ag, .inl (γ.2 1, 24, .inl (fun j => nI (af j))))] [some (.ref a), some (.ref gr), some (.int (nI b)), some (.int (nI gg)), some (.int (nI w)), some (.int (nI p))] [] 0 0 10 := by
    intro d
    induction d with
    | zero => intro p w hm; exact absurd hm (Nat.not_lt_zero _)
    | succ d ih_lp =>
      intro p w hm hi hw hr
      refine J.iload g dX6_shortestRun_10 rfl ?_
      refine J.aload_n g dX6_shortestRun_12 rfl rfl ?_
      refine J.get g jX6 1 (by decide) lf_X6_15 0 rfl rfl dX6_shortestRun_13 ?_
      refine J.icmp_geN g dX6_shortestRun_16 (tgt := 60) (by decide) (by omega) (by omega) (fun c_16 => ?_) (fun c_16 => ?_)
      · refine J.iconst (v := -1) g dX6_shortestRun_60 (by decide) ?_
        exact J.iret g hE () (by rw [hr, jrn_0 c_16]) trivial rfl ⟨Nat.le_of_ble_eq_true rfl, Nat.le_of_ble_eq_true rfl⟩ dX6_shortestRun_61
      · refine J.iload g dX6_shortestRun_19 rfl ?_
        refine J.bipush (v := nI 12) g dX6_shortestRun_21 (by decide +kernel) ?_
        refine J.icmp_geN g dX6_shortestRun_23 (tgt := 60) (by decide) (by omega) (by omega) (fun c_23 => absurd c_23 (by omega)) (fun c_23 => ?_)
        refine J.aload_n g dX6_shortestRun_26 rfl rfl ?_
        refine J.iload g dX6_shortestRun_27 rfl ?_
        refine J.aload_n g dX6_shortestRun_29 rfl rfl ?_
        refine J.get g jX6 0 (by decide) lf_X6_9 0 rfl rfl dX6_shortestRun_30 ?_
        refine J.iload g dX6_shortestRun_33 rfl ?_
        refine J.ialdN g 1 rfl (by omega) (by decide) dX6_shortestRun_35 ?_
        refine J.callV0 g (c_X0_plus l γ _ _ _ _ _ _ _ _ _ _ _ hT (by omega) (by have := hf p (by omega); omega)) jy_X0_plus lm_X6_33 (q0 := 2) rfl jX0.1 ⟨⟨Nat.le_of_ble_eq_true rfl, Nat.le_of_ble_eq_true rfl⟩, Nat.le_of_ble_eq_true rfl, Nat.le_of_ble_eq_true rfl⟩ (Nat.le_of_ble_eq_true rfl) rfl [2, 3, 4] rfl rfl dX6_shortestRun_36 ?_
        intro _ _
        dsimp only [jpush]
        refine J.istore g dX6_shortestRun_39 rfl rfl ?_
        try dsimp only [List.set_cons_zero, List.set_cons_succ]
        refine J.iload g dX6_shortestRun_41 rfl ?_
        refine J.iload_n g dX6_shortestRun_43 rfl rfl ?_
        refine J.icmp_neN g dX6_shortestRun_44 (tgt := 54) (by decide) (by have := jpl_24 hT w (f p); omega) (by omega) (fun c_44 => ?_) (fun c_44 => ?_)
        · refine J.iincN g 1 dX6_shortestRun_54 rfl rfl ?_
          try dsimp only [List.set_cons_zero, List.set_cons_succ]
          refine J.goto g dX6_shortestRun_57 (tgt := 10) (by decide) ?_
          exact J.lvle (jle_s (jle_s (jle_s (jle_s (jle_s (jle_s jle_0)))))) (ih_lp (p + 1) (jpl od mf w (f p)) (by omega) (by omega) (jpl_24 hT _ _) (hr.trans (jrn_n (by omega) c_44)))
        · refine J.iload g dX6_shortestRun_47 rfl ?_
          refine J.iload_n g dX6_shortestRun_49 rfl rfl ?_
          refine J.isubN g dX6_shortestRun_50 (by omega) ?_
          refine J.iconstN g 1 dX6_shortestRun_51 ?_
          refine J.iaddN g dX6_shortestRun_52 ?_
          exact J.iret g hE () (by rw [hr, jrn_e (by omega) c_44]) trivial rfl ⟨Nat.le_of_ble_eq_true rfl, Nat.le_of_ble_eq_true rfl⟩ dX6_shortestRun_53
  exact J.lvle (jle_s (jle_s (jle_s (jle_s (jle_s (jle_s jle_0)))))) (lp _ b 0 (Nat.lt_succ_self _) (by omega) (by omega) rfl)
