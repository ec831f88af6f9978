set_option maxHeartbeats 4000000 in
set_option maxRecDepth 100000 in
theorem c_X3_fewestAtoms (l : Launch) (γ : jγ) (pp b0 b1 b2 ra re sgc wh rn : Nat) (m0 m1 m2 rf : Nat → Nat)  : jM (S := Unit) l γ yX3_fewestAtoms cX3_fewestAtoms 1 (some .int) ({ frames := 0, cells := 0, slots := 0, locals := 0 } : Room) [.ref pp] [(pp, .inr (3, [.ref b0, .ref b1, .ref b2, .ref ra, .int (nI sgc), .int (nI wh)])), (b0, .inl (γ.2 1, 4096, .inl (fun j => nI (m0 j)))), (b1, .inl (γ.2 1, 4096, .inl (fun j => nI (m1 j)))), (b2, .inl (γ.2 1, 4096, .inl (fun j => nI (m2 j)))), (ra, .inr (6, [.ref re, .int (nI rn)])), (re, .inl (γ.2 0, 12, .inl (fun j => nI (rf j))))] (fun w0 => some (.int (nI (m2 0)))) (fun w0 => [(pp, .inr (3, [.ref b0, .ref b1, .ref b2, .ref ra, .int (nI sgc), .int (nI wh)])), (b0, .inl (γ.2 1, 4096, .inl (fun j => nI (m0 j)))), (b1, .inl (γ.2 1, 4096, .inl (fun j => nI (m1 j)))), (b2, .inl (γ.2 1, 4096, .inl (fun j => nI (m2 j)))), (ra, .inr (6, [.ref re, .int (nI rn)])), (re, .inl (γ.2 0, 12, .inl (fun j => nI (rf j))))]) (fun w0 => True) := by
  refine jM.of [some (.ref pp)] rfl (Nat.le_of_ble_eq_true rfl) (by decide) ?_
  intro x g hE hin
  refine J.aload_n g dX3_fewestAtoms_0 rfl rfl ?_
  refine J.get g jX3 2 (by decide) lf_X3_18 0 rfl rfl dX3_fewestAtoms_1 ?_
  refine J.iconstN g 0 dX3_fewestAtoms_4 ?_
  refine J.baldN g 3 rfl (by omega) (by decide) dX3_fewestAtoms_5 ?_
  exact J.iret g hE () rfl trivial rfl ⟨Nat.le_of_ble_eq_true rfl, Nat.le_of_ble_eq_true rfl⟩ dX3_fewestAtoms_6
set_option maxHeartbeats 4000000 in
set_option maxRecDepth 100000 in
theorem c_X3_madeBy (l : Launch) (γ : jγ) (pp b0 b1 b2 ra re sgc wh rn : Nat) (m0 m1 m2 rf : Nat → Nat) (s : Nat) (hs : s < 4096) : jM (S := Unit) l γ yX3_madeBy cX3_madeBy 2 (some .int) ({ frames := 0, cells := 0, slots := 0, locals := 0 } : Room) [.ref pp, .int (nI s)] [(pp, .inr (3, [.ref b0, .ref b1, .ref b2, .ref ra, .int (nI sgc), .int (nI wh)])), (b0, .inl (γ.2 1, 4096, .inl (fun j => nI (m0 j)))), (b1, .inl (γ.2 1, 4096, .inl (fun j => nI (m1 j)))), (b2, .inl (γ.2 1, 4096, .inl (fun j => nI (m2 j)))), (ra, .inr (6, [.ref re, .int (nI rn)])), (re, .inl (γ.2 0, 12, .inl (fun j => nI (rf j))))] (fun w0 => some (.int (nI (m0 s)))) (fun w0 => [(pp, .inr (3, [.ref b0, .ref b1, .ref b2, .ref ra, .int (nI sgc), .int (nI wh)])), (b0, .inl (γ.2 1, 4096, .inl (fun j => nI (m0 j)))), (b1, .inl (γ.2 1, 4096, .inl (fun j => nI (m1 j)))), (b2, .inl (γ.2 1, 4096, .inl (fun j => nI (m2 j)))), (ra, .inr (6, [.ref re, .int (nI rn)])), (re, .inl (γ.2 0, 12, .inl (fun j => nI (rf j))))]) (fun w0 => True) := by
  refine jM.of [some (.ref pp), some (.int (nI s))] rfl (Nat.le_of_ble_eq_true rfl) (by decide) ?_
  intro x g hE hin
  refine J.iload_n g dX3_madeBy_0 rfl rfl ?_
  refine J.if_ltN g dX3_madeBy_1 (tgt := 20) (by decide) (by omega) ?_
  refine J.iload_n g dX3_madeBy_4 rfl rfl ?_
  refine J.sipush (v := nI 4096) g dX3_madeBy_5 (by decide +kernel) ?_
  refine J.icmp_geN g dX3_madeBy_8 (tgt := 20) (by decide) (by omega) (by omega) (fun c_8 => absurd c_8 (by omega)) (fun c_8 => ?_)
  refine J.aload_n g dX3_madeBy_11 rfl rfl ?_
  refine J.get g jX3 0 (by decide) lf_X3_9 0 rfl rfl dX3_madeBy_12 ?_
  refine J.iload_n g dX3_madeBy_15 rfl rfl ?_
  refine J.baldN g 1 rfl (by omega) (by decide) dX3_madeBy_16 ?_
  refine J.goto g dX3_madeBy_17 (tgt := 21) (by decide) ?_
  exact J.iret g hE () rfl trivial rfl ⟨Nat.le_of_ble_eq_true rfl, Nat.le_of_ble_eq_true rfl⟩ dX3_madeBy_21
set_option maxHeartbeats 4000000 in
set_option maxRecDepth 100000 in
theorem c_X3_mostOf (l : Launch) (γ : jγ) (pp b0 b1 b2 ra re sgc wh rn : Nat) (m0 m1 m2 rf : Nat → Nat) (s : Nat) (hs : s < 4096) : jM (S := Unit) l γ yX3_mostOf cX3_mostOf 2 (some .int) ({ frames := 0, cells := 0, slots := 0, locals := 0 } : Room) [.ref pp, .int (nI s)] [(pp, .inr (3, [.ref b0, .ref b1, .ref b2, .ref ra, .int (nI sgc), .int (nI wh)])), (b0, .inl (γ.2 1, 4096, .inl (fun j => nI (m0 j)))), (b1, .inl (γ.2 1, 4096, .inl (fun j => nI (m1 j)))), (b2, .inl (γ.2 1, 4096, .inl (fun j => nI (m2 j)))), (ra, .inr (6, [.ref re, .int (nI rn)])), (re, .inl (γ.2 0, 12, .inl (fun j => nI (rf j))))] (fun w0 => some (.int (nI (m1 s)))) (fun w0 => [(pp, .inr (3, [.ref b0, .ref b1, .ref b2, .ref ra, .int (nI sgc), .int (nI wh)])), (b0, .inl (γ.2 1, 4096, .inl (fun j => nI (m0 j)))), (b1, .inl (γ.2 1, 4096, .inl (fun j => nI (m1 j)))), (b2, .inl (γ.2 1, 4096, .inl (fun j => nI (m2 j)))), (ra, .inr (6, [.ref re, .int (nI rn)])), (re, .inl (γ.2 0, 12, .inl (fun j => nI (rf j))))]) (fun w0 => True) := by
  refine jM.of [some (.ref pp), some (.int (nI s))] rfl (Nat.le_of_ble_eq_true rfl) (by decide) ?_
  intro x g hE hin
  refine J.iload_n g dX3_mostOf_0 rfl rfl ?_
  refine J.if_ltN g dX3_mostOf_1 (tgt := 20) (by decide) (by omega) ?_
  refine J.iload_n g dX3_mostOf_4 rfl rfl ?_
  refine J.sipush (v := nI 4096) g dX3_mostOf_5 (by decide +kernel) ?_
  refine J.icmp_geN g dX3_mostOf_8 (tgt := 20) (by decide) (by omega) (by omega) (fun c_8 => absurd c_8 (by omega)) (fun c_8 => ?_)
  refine J.aload_n g dX3_mostOf_11 rfl rfl ?_
  refine J.get g jX3 1 (by decide) lf_X3_15 0 rfl rfl dX3_mostOf_12 ?_
  refine J.iload_n g dX3_mostOf_15 rfl rfl ?_
  refine J.baldN g 2 rfl (by omega) (by decide) dX3_mostOf_16 ?_
  refine J.goto g dX3_mostOf_17 (tgt := 21) (by decide) ?_
  exact J.iret g hE () rfl trivial rfl ⟨Nat.le_of_ble_eq_true rfl, Nat.le_of_ble_eq_true rfl⟩ dX3_mostOf_21
set_option maxHeartbeats 4000000 in
set_option maxRecDepth 100000 in
theorem c_X3_mostAtoms (l : Launch) (γ : jγ) (pp b0 b1 b2 ra re sgc wh rn : Nat) (m0 m1 m2 rf : Nat → Nat) (hw : wh < 4096) : jM (S := Unit) l γ yX3_mostAtoms cX3_mostAtoms 1 (some .int) ({ frames := 1, cells := 0, slots := 0, locals := 21 } : Room) [.ref pp] [(pp, .inr (3, [.ref b0, .ref b1, .ref b2, .ref ra, .int (nI sgc), .int (nI wh)])), (b0, .inl (γ.2 1, 4096, .inl (fun j => nI (m0 j)))), (b1, .inl (γ.2 1, 4096, .inl (fun j => nI (m1 j)))), (b2, .inl (γ.2 1, 4096, .inl (fun j => nI (m2 j)))), (ra, .inr (6, [.ref re, .int (nI rn)])), (re, .inl (γ.2 0, 12, .inl (fun j => nI (rf j))))] (fun w0 => some (.int (nI (m1 wh)))) (fun w0 => [(pp, .inr (3, [.ref b0, .ref b1, .ref b2, .ref ra, .int (nI sgc), .int (nI wh)])), (b0, .inl (γ.2 1, 4096, .inl (fun j => nI (m0 j)))), (b1, .inl (γ.2 1, 4096, .inl (fun j => nI (m1 j)))), (b2, .inl (γ.2 1, 4096, .inl (fun j => nI (m2 j)))), (ra, .inr (6, [.ref re, .int (nI rn)])), (re, .inl (γ.2 0, 12, .inl (fun j => nI (rf j))))]) (fun w0 => True) := by
  refine jM.of [some (.ref pp)] rfl (Nat.le_of_ble_eq_true rfl) (by decide) ?_
  intro x g hE hin
  refine J.aload_n g dX3_mostAtoms_0 rfl rfl ?_
  refine J.aload_n g dX3_mostAtoms_1 rfl rfl ?_
  refine J.get g jX3 5 (by decide) lf_X3_32 0 rfl rfl dX3_mostAtoms_2 ?_
  refine J.callV0 g (c_X3_mostOf l γ _ _ _ _ _ _ _ _ _ _ _ _ _ _ (by omega)) jy_X3_mostOf lm_X3_35 (q0 := 0) rfl jX3.1 ⟨⟨Nat.le_of_ble_eq_true rfl, Nat.le_of_ble_eq_true rfl⟩, Nat.le_of_ble_eq_true rfl, Nat.le_of_ble_eq_true rfl⟩ (Nat.le_of_ble_eq_true rfl) rfl [0, 1, 2, 3, 4, 5] rfl rfl dX3_mostAtoms_5 ?_
  intro _ _
  dsimp only [jpush]
  exact J.iret g hE () rfl trivial rfl ⟨Nat.le_of_ble_eq_true rfl, Nat.le_of_ble_eq_true rfl⟩ dX3_mostAtoms_8
set_option maxHeartbeats 4000000 in
set_option maxRecDepth 100000 in
theorem c_X3_isAtom (l : Launch) (γ : jγ) (pp b0 b1 b2 ra re sgc wh rn : Nat) (m0 m1 m2 rf : Nat → Nat) (s : Nat) (hs : s < 4096) (hb : ∀ s, m0 s < 128 ∧ m1 s < 128) : jM (S := Unit) l γ yX3_isAtom cX3_isAtom 2 (some .boolean) ({ frames := 1, cells := 0, slots := 0, locals := 21 } : Room) [.ref pp, .int (nI s)] [(pp, .inr (3, [.ref b0, .ref b1, .ref b2, .ref ra, .int (nI sgc), .int (nI wh)])), (b0, .inl (γ.2 1, 4096, .inl (fun j => nI (m0 j)))), (b1, .inl (γ.2 1, 4096, .inl (fun j => nI (m1 j)))), (b2, .inl (γ.2 1, 4096, .inl (fun j => nI (m2 j)))), (ra, .inr (6, [.ref re, .int (nI rn)])), (re, .inl (γ.2 0, 12, .inl (fun j => nI (rf j))))] (fun w0 => some (.int (jB (jia m0 m1 s)))) (fun w0 => [(pp, .inr (3, [.ref b0, .ref b1, .ref b2, .ref ra, .int (nI sgc), .int (nI wh)])), (b0, .inl (γ.2 1, 4096, .inl (fun j => nI (m0 j)))), (b1, .inl (γ.2 1, 4096, .inl (fun j => nI (m1 j)))), (b2, .inl (γ.2 1, 4096, .inl (fun j => nI (m2 j)))), (ra, .inr (6, [.ref re, .int (nI rn)])), (re, .inl (γ.2 0, 12, .inl (fun j => nI (rf j))))]) (fun w0 => True) := by
  refine jM.of [some (.ref pp), some (.int (nI s))] rfl (Nat.le_of_ble_eq_true rfl) (by decide) ?_
  intro x g hE hin
  refine J.aload_n g dX3_isAtom_0 rfl rfl ?_
  refine J.iload_n g dX3_isAtom_1 rfl rfl ?_
  refine J.callV0 g (c_X3_madeBy l γ _ _ _ _ _ _ _ _ _ _ _ _ _ _ (by omega)) jy_X3_madeBy lm_X3_72 (q0 := 0) rfl jX3.1 ⟨⟨Nat.le_of_ble_eq_true rfl, Nat.le_of_ble_eq_true rfl⟩, Nat.le_of_ble_eq_true rfl, Nat.le_of_ble_eq_true rfl⟩ (Nat.le_of_ble_eq_true rfl) rfl [0, 1, 2, 3, 4, 5] rfl rfl dX3_isAtom_2 ?_
  intro _ _
  dsimp only [jpush]
  refine J.if_neN g dX3_isAtom_5 (tgt := 21) (by decide) (by have := (hb s).1; omega) (fun c_5 => ?_) (fun c_5 => ?_)
  · refine J.iconstN g 0 dX3_isAtom_21 ?_
    exact J.zret (by first | rfl | exact j_nz _) g hE () (jB_f (by first | exact jia_1 c_5 | exact jia_2 c_14 | exact jia_3 c_5 c_14)) trivial rfl ⟨Nat.le_of_ble_eq_true rfl, Nat.le_of_ble_eq_true rfl⟩ dX3_isAtom_22
  · refine J.aload_n g dX3_isAtom_8 rfl rfl ?_
    refine J.iload_n g dX3_isAtom_9 rfl rfl ?_
    refine J.callV0 g (c_X3_mostOf l γ _ _ _ _ _ _ _ _ _ _ _ _ _ _ (by omega)) jy_X3_mostOf lm_X3_35 (q0 := 0) rfl jX3.1 ⟨⟨Nat.le_of_ble_eq_true rfl, Nat.le_of_ble_eq_true rfl⟩, Nat.le_of_ble_eq_true rfl, Nat.le_of_ble_eq_true rfl⟩ (Nat.le_of_ble_eq_true rfl) rfl [0, 1, 2, 3, 4, 5] rfl rfl dX3_isAtom_10 ?_
    intro _ _
    dsimp only [jpush]
    refine J.iconstN g 1 dX3_isAtom_13 ?_
    refine J.icmp_neN g dX3_isAtom_14 (tgt := 21) (by decide) (by have := (hb s).2; omega) (by omega) (fun c_14 => ?_) (fun c_14 => ?_)
    · refine J.iconstN g 0 dX3_isAtom_21 ?_
      exact J.zret (by first | rfl | exact j_nz _) g hE () (jB_f (by first | exact jia_1 c_5 | exact jia_2 c_14 | exact jia_3 c_5 c_14)) trivial rfl ⟨Nat.le_of_ble_eq_true rfl, Nat.le_of_ble_eq_true rfl⟩ dX3_isAtom_22
    · refine J.iconstN g 1 dX3_isAtom_17 ?_
      refine J.goto g dX3_isAtom_18 (tgt := 22) (by decide) ?_
      exact J.zret (by first | rfl | exact j_nz _) g hE () (jB_t (by first | exact jia_1 c_5 | exact jia_2 c_14 | exact jia_3 c_5 c_14)) trivial rfl ⟨Nat.le_of_ble_eq_true rfl, Nat.le_of_ble_eq_true rfl⟩ dX3_isAtom_22
set_option maxHeartbeats 4000000 in
set_option maxRecDepth 100000 in
theorem c_X3_nextSet (l : Launch) (γ : jγ) (r w : Nat) (hr : r < 4096) (hw : w < 4096) : jM (S := Unit) l γ yX3_nextSet cX3_nextSet 2 (some .int) ({ frames := 0, cells := 0, slots := 0, locals := 0 } : Room) [.int (nI r), .int (nI w)] [] (fun w0 => some (.int (nI (jnx r w)))) (fun w0 => []) (fun w0 => True) := by
  refine jM.of [some (.int (nI r)), some (.int (nI w))] rfl (Nat.le_of_ble_eq_true rfl) (by decide) ?_
  intro x g hE hin
  refine J.iload_n g dX3_nextSet_0 rfl rfl ?_
  refine J.iload_n g dX3_nextSet_1 rfl rfl ?_
  refine J.isub g dX3_nextSet_2 ?_
  refine J.iload_n g dX3_nextSet_3 rfl rfl ?_
  refine J.iand' g dX3_nextSet_4 (j_nx hr hw) ?_
  exact J.iret g hE () rfl trivial rfl ⟨Nat.le_of_ble_eq_true rfl, Nat.le_of_ble_eq_true rfl⟩ dX3_nextSet_5
set_option maxHeartbeats 4000000 in
set_option maxRecDepth 100000 in
theorem c_X3_mostWithoutOne (l : Launch) (γ : jγ) (pp b0 b1 b2 ra re sgc wh rn : Nat) (m0 m1 m2 rf : Nat → Nat) (s : Nat) (hs : s < 4096) (hn : rn ≤ 12) (hb : ∀ s, m0 s < 128 ∧ m1 s < 128) : jM (S := Unit) l γ yX3_mostWithoutOne cX3_mostWithoutOne 4 (some .int) ({ frames := 1, cells := 0, slots := 0, locals := 24 } : Room) [.ref pp, .int (nI s)] [(pp, .inr (3, [.ref b0, .ref b1, .ref b2, .ref ra, .int (nI sgc), .int (nI wh)])), (b0, .inl (γ.2 1, 4096, .inl (fun j => nI (m0 j)))), (b1, .inl (γ.2 1, 4096, .inl (fun j => nI (m1 j)))), (b2, .inl (γ.2 1, 4096, .inl (fun j => nI (m2 j)))), (ra, .inr (6, [.ref re, .int (nI rn)])), (re, .inl (γ.2 0, 12, .inl (fun j => nI (rf j))))] (fun w0 => some (.int (nI (jmwo m1 s rn)))) (fun w0 => [(pp, .inr (3, [.ref b0, .ref b1, .ref b2, .ref ra, .int (nI sgc), .int (nI wh)])), (b0, .inl (γ.2 1, 4096, .inl (fun j => nI (m0 j)))), (b1, .inl (γ.2 1, 4096, .inl (fun j => nI (m1 j)))), (b2, .inl (γ.2 1, 4096, .inl (fun j => nI (m2 j)))), (ra, .inr (6, [.ref re, .int (nI rn)])), (re, .inl (γ.2 0, 12, .inl (fun j => nI (rf j))))]) (fun w0 => True) := by
  refine jM.of [some (.ref pp), some (.int (nI s)), none, none] rfl (Nat.le_of_ble_eq_true rfl) (by decide) ?_
  intro x g hE hin
  refine J.iconstN g 0 dX3_mostWithoutOne_0 ?_
  refine J.istore_n g dX3_mostWithoutOne_1 rfl rfl rfl ?_
  try dsimp only [List.set_cons_zero, List.set_cons_succ]
  refine J.iconstN g 0 dX3_mostWithoutOne_2 ?_
  refine J.istore_n g dX3_mostWithoutOne_3 rfl rfl rfl ?_
  try dsimp only [List.set_cons_zero, List.set_cons_succ]
  have lp : ∀ (d : Nat) (i : Nat), rn - i < d → (i ≤ rn) → J γ l x [(pp, .inr (3, [.ref b0, .ref b1, .ref b2, .ref ra, .int (nI sgc), .int (nI wh)])), (b0, .inl (γ.2 1, 4096, .inl (fun j => nI (m0 j)))), (b1, .inl (γ.2 1, 4096, .inl (fun j => nI (m1 j)))), (b2, .inl (γ.2 1, 4096, .inl (fun j => nI (m2 j)))), (ra, .inr (6, [.ref re, .int (nI rn)])), (re, .inl (γ.2 0, 12, .inl (fun j => nI (rf j))))] [some (.ref pp), some (.int (nI s)), some (.int (nI (jmwo m1 s i))), some (.int (nI i))] [] 0 0 4 := by
    intro d
    induction d with
    | zero => intro i hm; exact absurd hm (Nat.not_lt_zero _)
    | succ d ih_lp =>
      intro i hm hi
      refine J.iload_n g dX3_mostWithoutOne_4 rfl rfl ?_
      refine J.aload_n g dX3_mostWithoutOne_5 rfl rfl ?_
      refine J.get g jX3 3 (by decide) lf_X3_24 0 rfl rfl dX3_mostWithoutOne_6 ?_
      refine J.callV0 g (c_X6_length l γ _ _ _ _ ) jy_X6_length lm_X3_62 (q0 := 4) rfl jX6.1 ⟨⟨Nat.le_of_ble_eq_true rfl, Nat.le_of_ble_eq_true rfl⟩, Nat.le_of_ble_eq_true rfl, Nat.le_of_ble_eq_true rfl⟩ (Nat.le_of_ble_eq_true rfl) rfl [4, 5] rfl rfl dX3_mostWithoutOne_9 ?_
      intro _ _
      dsimp only [jpush]
      refine J.icmp_geN g dX3_mostWithoutOne_12 (tgt := 43) (by decide) (by omega) (by omega) (fun c_12 => ?_) (fun c_12 => ?_)
      · refine J.iload_n g dX3_mostWithoutOne_43 rfl rfl ?_
        exact J.iret g hE () (by rw [show rn = i by omega]) trivial rfl ⟨Nat.le_of_ble_eq_true rfl, Nat.le_of_ble_eq_true rfl⟩ dX3_mostWithoutOne_44
      · refine J.iload_n g dX3_mostWithoutOne_15 rfl rfl ?_
        refine J.iload_n g dX3_mostWithoutOne_16 rfl rfl ?_
        refine J.iushr g dX3_mostWithoutOne_17 (j_ushr (by omega) (by omega)) ?_
        refine J.iconstN g 1 dX3_mostWithoutOne_18 ?_
        refine J.iand' g dX3_mostWithoutOne_19 (j_and _ _) ?_
        refine J.if_eqN g dX3_mostWithoutOne_20 (tgt := 37) (by decide) (by have := @Nat.and_le_right (s >>> i) 1; omega) (fun c_20 => ?_) (fun c_20 => ?_)
        · have hq : jmwo m1 s (i + 1) = jmwo m1 s i := by rw [jmwo, if_neg (by rw [jtb0.mp c_20]; decide)]
          refine J.iincN g 1 dX3_mostWithoutOne_37 rfl rfl ?_
          try dsimp only [List.set_cons_zero, List.set_cons_succ]
          refine J.goto g dX3_mostWithoutOne_40 (tgt := 4) (by decide) ?_
          have ih2 := ih_lp (i + 1) (by omega) (by omega)
          rw [hq] at ih2
          exact J.lvle (jle_s (jle_s (jle_s (jle_s jle_0)))) ih2
        · have hq : jmwo m1 s (i + 1) = max (jmwo m1 s i) (m1 (s ^^^ 2 ^ i)) := by rw [jmwo, if_pos (jtb1.mp c_20)]
          refine J.iload_n g dX3_mostWithoutOne_23 rfl rfl ?_
          refine J.aload_n g dX3_mostWithoutOne_24 rfl rfl ?_
          refine J.iload_n g dX3_mostWithoutOne_25 rfl rfl ?_
          refine J.iconstN g 1 dX3_mostWithoutOne_26 ?_
          refine J.iload_n g dX3_mostWithoutOne_27 rfl rfl ?_
          refine J.ishl' g dX3_mostWithoutOne_28 (j_pow (by omega)) ?_
          refine J.ixor' g dX3_mostWithoutOne_29 (j_xor _ _) ?_
          refine J.callV0 g (c_X3_mostOf l γ _ _ _ _ _ _ _ _ _ _ _ _ _ _ (jx_lt hs (by omega))) jy_X3_mostOf lm_X3_35 (q0 := 0) rfl jX3.1 ⟨⟨Nat.le_of_ble_eq_true rfl, Nat.le_of_ble_eq_true rfl⟩, Nat.le_of_ble_eq_true rfl, Nat.le_of_ble_eq_true rfl⟩ (Nat.le_of_ble_eq_true rfl) rfl [0, 1, 2, 3, 4, 5] rfl rfl dX3_mostWithoutOne_30 ?_
          intro _ _
          dsimp only [jpush]
          refine J.mmax g lm_X3_84 jm_max_s jm_i jm_max_c ⟨Nat.le_of_ble_eq_true rfl, Nat.le_of_ble_eq_true rfl, Nat.le_of_ble_eq_true rfl, Nat.le_of_ble_eq_true rfl⟩ (j_mx (by have := jmwo_lt (fun t => (hb t).2) s i; omega) (by have := (hb (s ^^^ 2 ^ i)).2; omega)) dX3_mostWithoutOne_33 ?_
          refine J.istore_n g dX3_mostWithoutOne_36 rfl rfl rfl ?_
          try dsimp only [List.set_cons_zero, List.set_cons_succ]
          refine J.iincN g 1 dX3_mostWithoutOne_37 rfl rfl ?_
          try dsimp only [List.set_cons_zero, List.set_cons_succ]
          refine J.goto g dX3_mostWithoutOne_40 (tgt := 4) (by decide) ?_
          have ih2 := ih_lp (i + 1) (by omega) (by omega)
          rw [hq] at ih2
          exact J.lvle (jle_s (jle_s (jle_s (jle_s jle_0)))) ih2
  exact J.lvle (jle_s (jle_s (jle_s (jle_s jle_0)))) (lp _ 0 (Nat.lt_succ_self _) (Nat.zero_le _))
set_option maxHeartbeats 4000000 in
set_option maxRecDepth 100000 in
theorem c_X3_hasLastOfEach (l : Launch) (γ : jγ) (pp b0 b1 b2 ra re sgc wh rn : Nat) (m0 m1 m2 rf : Nat → Nat) (s : Nat) (hs : s < 4096) (hn : rn ≤ 12) (hf : ∀ j, j < rn → rf j < 24) : jM (S := Unit) l γ yX3_hasLastOfEach cX3_hasLastOfEach 4 (some .boolean) ({ frames := 2, cells := 0, slots := 0, locals := 42 } : Room) [.ref pp, .int (nI s)] [(pp, .inr (3, [.ref b0, .ref b1, .ref b2, .ref ra, .int (nI sgc), .int (nI wh)])), (b0, .inl (γ.2 1, 4096, .inl (fun j => nI (m0 j)))), (b1, .inl (γ.2 1, 4096, .inl (fun j => nI (m1 j)))), (b2, .inl (γ.2 1, 4096, .inl (fun j => nI (m2 j)))), (ra, .inr (6, [.ref re, .int (nI rn)])), (re, .inl (γ.2 0, 12, .inl (fun j => nI (rf j))))] (fun w0 => some (.int (jB (jhle rf s rn)))) (fun w0 => [(pp, .inr (3, [.ref b0, .ref b1, .ref b2, .ref ra, .int (nI sgc), .int (nI wh)])), (b0, .inl (γ.2 1, 4096, .inl (fun j => nI (m0 j)))), (b1, .inl (γ.2 1, 4096, .inl (fun j => nI (m1 j)))), (b2, .inl (γ.2 1, 4096, .inl (fun j => nI (m2 j)))), (ra, .inr (6, [.ref re, .int (nI rn)])), (re, .inl (γ.2 0, 12, .inl (fun j => nI (rf j))))]) (fun w0 => True) := by
  refine jM.of [some (.ref pp), some (.int (nI s)), none, none] rfl (Nat.le_of_ble_eq_true rfl) (by decide) ?_
  intro x g hE hin
  refine J.iconstN g 0 dX3_hasLastOfEach_0 ?_
  refine J.istore_n g dX3_hasLastOfEach_1 rfl rfl rfl ?_
  try dsimp only [List.set_cons_zero, List.set_cons_succ]
  have lp : ∀ (d : Nat) (i : Nat), rn - i < d → (i ≤ rn) → (∀ p, p < i → s.testBit p = true → ∀ o, o < rn → p < o → s.testBit o = false → rf o ≠ rf p) → J γ l x [(pp, .inr (3, [.ref b0, .ref b1, .ref b2, .ref ra, .int (nI sgc), .int (nI wh)])), (b0, .inl (γ.2 1, 4096, .inl (fun j => nI (m0 j)))), (b1, .inl (γ.2 1, 4096, .inl (fun j => nI (m1 j)))), (b2, .inl (γ.2 1, 4096, .inl (fun j => nI (m2 j)))), (ra, .inr (6, [.ref re, .int (nI rn)])), (re, .inl (γ.2 0, 12, .inl (fun j => nI (rf j))))] [some (.ref pp), some (.int (nI s)), some (.int (nI i)), none] [] 0 0 2 := by
    intro d
    induction d with
    | zero => intro i hm; exact absurd hm (Nat.not_lt_zero _)
    | succ d ih_lp =>
      intro i hm hi hh
      refine J.iload_n g dX3_hasLastOfEach_2 rfl rfl ?_
      refine J.aload_n g dX3_hasLastOfEach_3 rfl rfl ?_
      refine J.get g jX3 3 (by decide) lf_X3_24 0 rfl rfl dX3_hasLastOfEach_4 ?_
      refine J.callV0 g (c_X6_length l γ _ _ _ _ ) jy_X6_length lm_X3_62 (q0 := 4) rfl jX6.1 ⟨⟨Nat.le_of_ble_eq_true rfl, Nat.le_of_ble_eq_true rfl⟩, Nat.le_of_ble_eq_true rfl, Nat.le_of_ble_eq_true rfl⟩ (Nat.le_of_ble_eq_true rfl) rfl [4, 5] rfl rfl dX3_hasLastOfEach_7 ?_
      intro _ _
      dsimp only [jpush]
      refine J.icmp_geN g dX3_hasLastOfEach_10 (tgt := 77) (by decide) (by omega) (by omega) (fun c_10 => ?_) (fun c_10 => ?_)
      · refine J.iconstN g 1 dX3_hasLastOfEach_77 ?_
        exact J.zret (by first | rfl | exact j_nz _) g hE () (jB_t (by first | exact jhle_t (by omega) hh | exact jhle_f (by omega) ho.1 (by omega) (jtb1.mp c_18) (jtb0.mp c_41) c_60)) trivial rfl ⟨Nat.le_of_ble_eq_true rfl, Nat.le_of_ble_eq_true rfl⟩ dX3_hasLastOfEach_78
      · refine J.iload_n g dX3_hasLastOfEach_13 rfl rfl ?_
        refine J.iload_n g dX3_hasLastOfEach_14 rfl rfl ?_
        refine J.iushr g dX3_hasLastOfEach_15 (j_ushr (by omega) (by omega)) ?_
        refine J.iconstN g 1 dX3_hasLastOfEach_16 ?_
        refine J.iand' g dX3_hasLastOfEach_17 (j_and _ _) ?_
        refine J.if_eqN g dX3_hasLastOfEach_18 (tgt := 71) (by decide) (by have := @Nat.and_le_right (s >>> i) 1; omega) (fun c_18 => ?_) (fun c_18 => ?_)
        · have hnx := lt_s (p := fun p => s.testBit p = true → ∀ o, o < rn → p < o → s.testBit o = false → rf o ≠ rf p) hh (fun h => absurd h (by rw [jtb0.mp c_18]; decide))
          refine J.iincN g 1 dX3_hasLastOfEach_71 rfl rfl ?_
          try dsimp only [List.set_cons_zero, List.set_cons_succ]
          refine J.goto g dX3_hasLastOfEach_74 (tgt := 2) (by decide) ?_
          exact J.lvle (jle_s (jle_s (jle_s (jle_n jle_0)))) (ih_lp (i + 1) (by omega) (by omega) hnx)
        · refine J.iload_n g dX3_hasLastOfEach_21 rfl rfl ?_
          refine J.iconstN g 1 dX3_hasLastOfEach_22 ?_
          refine J.iaddN g dX3_hasLastOfEach_23 ?_
          refine J.istore_n g dX3_hasLastOfEach_24 rfl rfl rfl ?_
          try dsimp only [List.set_cons_zero, List.set_cons_succ]
          have lq : ∀ (d : Nat) (o : Nat), rn - o < d → (i < o ∧ o ≤ rn) → (∀ q, q < o → i < q → s.testBit q = false → rf q ≠ rf i) → J γ l x [(pp, .inr (3, [.ref b0, .ref b1, .ref b2, .ref ra, .int (nI sgc), .int (nI wh)])), (b0, .inl (γ.2 1, 4096, .inl (fun j => nI (m0 j)))), (b1, .inl (γ.2 1, 4096, .inl (fun j => nI (m1 j)))), (b2, .inl (γ.2 1, 4096, .inl (fun j => nI (m2 j)))), (ra, .inr (6, [.ref re, .int (nI rn)])), (re, .inl (γ.2 0, 12, .inl (fun j => nI (rf j))))] [some (.ref pp), some (.int (nI s)), some (.int (nI i)), some (.int (nI o))] [] 0 0 25 := by
            intro d
            induction d with
            | zero => intro o hm; exact absurd hm (Nat.not_lt_zero _)
            | succ d ih_lq =>
              intro o hm ho h2
              refine J.iload_n g dX3_hasLastOfEach_25 rfl rfl ?_
              refine J.aload_n g dX3_hasLastOfEach_26 rfl rfl ?_
              refine J.get g jX3 3 (by decide) lf_X3_24 0 rfl rfl dX3_hasLastOfEach_27 ?_
              refine J.callV0 g (c_X6_length l γ _ _ _ _ ) jy_X6_length lm_X3_62 (q0 := 4) rfl jX6.1 ⟨⟨Nat.le_of_ble_eq_true rfl, Nat.le_of_ble_eq_true rfl⟩, Nat.le_of_ble_eq_true rfl, Nat.le_of_ble_eq_true rfl⟩ (Nat.le_of_ble_eq_true rfl) rfl [4, 5] rfl rfl dX3_hasLastOfEach_30 ?_
              intro _ _
              dsimp only [jpush]
              refine J.icmp_geN g dX3_hasLastOfEach_33 (tgt := 71) (by decide) (by omega) (by omega) (fun c_33 => ?_) (fun c_33 => ?_)
              · have hnx := lt_s (p := fun p => s.testBit p = true → ∀ o, o < rn → p < o → s.testBit o = false → rf o ≠ rf p) hh (fun _ q hq hiq hz => h2 q (by omega) hiq hz)
                refine J.iincN g 1 dX3_hasLastOfEach_71 rfl rfl ?_
                try dsimp only [List.set_cons_zero, List.set_cons_succ]
                refine J.goto g dX3_hasLastOfEach_74 (tgt := 2) (by decide) ?_
                exact J.lvle (jle_s (jle_s (jle_s (jle_n jle_0)))) (ih_lp (i + 1) (by omega) (by omega) hnx)
              · refine J.iload_n g dX3_hasLastOfEach_36 rfl rfl ?_
                refine J.iload_n g dX3_hasLastOfEach_37 rfl rfl ?_
                refine J.iushr g dX3_hasLastOfEach_38 (j_ushr (by omega) (by omega)) ?_
                refine J.iconstN g 1 dX3_hasLastOfEach_39 ?_
                refine J.iand' g dX3_hasLastOfEach_40 (j_and _ _) ?_
                refine J.if_neN g dX3_hasLastOfEach_41 (tgt := 65) (by decide) (by have := @Nat.and_le_right (s >>> o) 1; omega) (fun c_41 => ?_) (fun c_41 => ?_)
                · have hny := lt_s (p := fun q => i < q → s.testBit q = false → rf q ≠ rf i) h2 (fun _ hz => absurd hz (by rw [jtb1.mp c_41]; decide))
                  refine J.iincN g 1 dX3_hasLastOfEach_65 rfl rfl ?_
                  try dsimp only [List.set_cons_zero, List.set_cons_succ]
                  refine J.goto g dX3_hasLastOfEach_68 (tgt := 25) (by decide) ?_
                  exact J.lvle (jle_s (jle_s (jle_s (jle_s jle_0)))) (ih_lq (o + 1) (by omega) (by omega) hny)
                · refine J.aload_n g dX3_hasLastOfEach_44 rfl rfl ?_
                  refine J.get g jX3 3 (by decide) lf_X3_24 0 rfl rfl dX3_hasLastOfEach_45 ?_
                  refine J.iload_n g dX3_hasLastOfEach_48 rfl rfl ?_
                  refine J.callV0 g (c_X6_elementAt_n l γ _ _ _ _ _ hn (by omega)) jy_X6_elementAt lm_X3_75 (q0 := 4) rfl jX6.1 ⟨⟨Nat.le_of_ble_eq_true rfl, Nat.le_of_ble_eq_true rfl⟩, Nat.le_of_ble_eq_true rfl, Nat.le_of_ble_eq_true rfl⟩ (Nat.le_of_ble_eq_true rfl) rfl [4, 5] rfl rfl dX3_hasLastOfEach_49 ?_
                  intro _ _
                  dsimp only [jpush]
                  refine J.aload_n g dX3_hasLastOfEach_52 rfl rfl ?_
                  refine J.get g jX3 3 (by decide) lf_X3_24 0 rfl rfl dX3_hasLastOfEach_53 ?_
                  refine J.iload_n g dX3_hasLastOfEach_56 rfl rfl ?_
                  refine J.callV0 g (c_X6_elementAt_n l γ _ _ _ _ _ hn (by omega)) jy_X6_elementAt lm_X3_75 (q0 := 4) rfl jX6.1 ⟨⟨Nat.le_of_ble_eq_true rfl, Nat.le_of_ble_eq_true rfl⟩, Nat.le_of_ble_eq_true rfl, Nat.le_of_ble_eq_true rfl⟩ (Nat.le_of_ble_eq_true rfl) rfl [4, 5] rfl rfl dX3_hasLastOfEach_57 ?_
                  intro _ _
                  dsimp only [jpush]
                  refine J.icmp_neN g dX3_hasLastOfEach_60 (tgt := 65) (by decide) (by have := hf o (by omega); omega) (by have := hf i (by omega); omega) (fun c_60 => ?_) (fun c_60 => ?_)
                  · have hny := lt_s (p := fun q => i < q → s.testBit q = false → rf q ≠ rf i) h2 (fun _ _ => c_60)
                    refine J.iincN g 1 dX3_hasLastOfEach_65 rfl rfl ?_
                    try dsimp only [List.set_cons_zero, List.set_cons_succ]
                    refine J.goto g dX3_hasLastOfEach_68 (tgt := 25) (by decide) ?_
                    exact J.lvle (jle_s (jle_s (jle_s (jle_s jle_0)))) (ih_lq (o + 1) (by omega) (by omega) hny)
                  · refine J.iconstN g 0 dX3_hasLastOfEach_63 ?_
                    exact J.zret (by first | rfl | exact j_nz _) g hE () (jB_f (by first | exact jhle_t (by omega) hh | exact jhle_f (by omega) ho.1 (by omega) (jtb1.mp c_18) (jtb0.mp c_41) c_60)) trivial rfl ⟨Nat.le_of_ble_eq_true rfl, Nat.le_of_ble_eq_true rfl⟩ dX3_hasLastOfEach_64
          exact J.lvle (jle_s (jle_s (jle_s (jle_s jle_0)))) (lq _ (i + 1) (Nat.lt_succ_self _) (by omega) (fun q h1 h2 => absurd h1 (by omega)))
  exact J.lvle (jle_s (jle_s (jle_s (jle_n jle_0)))) (lp _ 0 (Nat.lt_succ_self _) (Nat.zero_le _) (fun p h => absurd h (Nat.not_lt_zero _)))
set_option maxHeartbeats 4000000 in
set_option maxRecDepth 100000 in
theorem c_X3_takeAtoms (l : Launch) (γ : jγ) (pp b0 b1 b2 ra re sgc wh rn : Nat) (m0 m1 m2 rf : Nat → Nat) (s : Nat) (hs : s < 4096) (h0 : 0 < s) (ht : ∀ t, m2 t < 128) (hb : ∀ s, m0 s < 128 ∧ m1 s < 128) : jM (S := Unit) l γ yX3_takeAtoms cX3_takeAtoms 7 none ({ frames := 2, cells := 0, slots := 0, locals := 42 } : Room) [.ref pp, .int (nI s)] [(pp, .inr (3, [.ref b0, .ref b1, .ref b2, .ref ra, .int (nI sgc), .int (nI wh)])), (b0, .inl (γ.2 1, 4096, .inl (fun j => nI (m0 j)))), (b1, .inl (γ.2 1, 4096, .inl (fun j => nI (m1 j)))), (b2, .inl (γ.2 1, 4096, .inl (fun j => nI (m2 j)))), (ra, .inr (6, [.ref re, .int (nI rn)])), (re, .inl (γ.2 0, 12, .inl (fun j => nI (rf j))))] (fun w0 => none) (fun w0 => [(pp, .inr (3, [.ref b0, .ref b1, .ref b2, .ref ra, .int (nI sgc), .int (nI wh)])), (b0, .inl (γ.2 1, 4096, .inl (fun j => nI (m0 j)))), (b1, .inl (γ.2 1, 4096, .inl (fun j => nI (m1 j)))), (b2, .inl (γ.2 1, 4096, .inl (fun j => nI ((jta m0 m1 s 4096 0 m2) j)))), (ra, .inr (6, [.ref re, .int (nI rn)])), (re, .inl (γ.2 0, 12, .inl (fun j => nI (rf j))))]) (fun w0 => True) := by
  refine jM.of [some (.ref pp), some (.int (nI s)), none, none, none, none, none] rfl (Nat.le_of_ble_eq_true rfl) (by decide) ?_
  intro x g hE hin
  refine J.iload_n g dX3_takeAtoms_0 rfl rfl ?_
  refine J.iload_n g dX3_takeAtoms_1 rfl rfl ?_
  refine J.ineg g dX3_takeAtoms_2 ?_
  refine J.iand' g dX3_takeAtoms_3 (j_low (by omega)) ?_
  refine J.istore_n g dX3_takeAtoms_4 rfl rfl rfl ?_
  try dsimp only [List.set_cons_zero, List.set_cons_succ]
  refine J.iload_n g dX3_takeAtoms_5 rfl rfl ?_
  refine J.iload_n g dX3_takeAtoms_6 rfl rfl ?_
  refine J.ixor' g dX3_takeAtoms_7 (j_xor _ _) ?_
  refine J.istore_n g dX3_takeAtoms_8 rfl rfl rfl ?_
  try dsimp only [List.set_cons_zero, List.set_cons_succ]
  refine J.iconstN g 0 dX3_takeAtoms_9 ?_
  refine J.istore g dX3_takeAtoms_10 rfl rfl ?_
  try dsimp only [List.set_cons_zero, List.set_cons_succ]
  refine J.iconstN g 0 dX3_takeAtoms_12 ?_
  refine J.istore g dX3_takeAtoms_13 rfl rfl ?_
  try dsimp only [List.set_cons_zero, List.set_cons_succ]
  have lp : ∀ (d : Nat) (i r : Nat) (T : Nat → Nat), 4096 - i < d → (i ≤ 4096) → (r < 4096) → (∀ t, T t < 128) → (jta m0 m1 s 4096 0 m2 = jta m0 m1 s (4096 - i) r T) → J γ l x [(pp, .inr (3, [.ref b0, .ref b1, .ref b2, .ref ra, .int (nI sgc), .int (nI wh)])), (b0, .inl (γ.2 1, 4096, .inl (fun j => nI (m0 j)))), (b1, .inl (γ.2 1, 4096, .inl (fun j => nI (m1 j)))), (b2, .inl (γ.2 1, 4096, .inl (fun j => nI (T j)))), (ra, .inr (6, [.ref re, .int (nI rn)])), (re, .inl (γ.2 0, 12, .inl (fun j => nI (rf j))))] [some (.ref pp), some (.int (nI s)), some (.int (nI (jlow s))), some (.int (nI (s ^^^ jlow s))), some (.int (nI r)), some (.int (nI i)), none] [] 0 0 15 := by
    intro d
    induction d with
    | zero => intro i r T hm; exact absurd hm (Nat.not_lt_zero _)
    | succ d ih_lp =>
      intro i r T hm hi hrr hT hr
      refine J.iload g dX3_takeAtoms_15 rfl ?_
      refine J.sipush (v := nI 4096) g dX3_takeAtoms_17 (by decide +kernel) ?_
      refine J.icmp_geN g dX3_takeAtoms_20 (tgt := 107) (by decide) (by omega) (by omega) (fun c_20 => ?_) (fun c_20 => ?_)
      · exact J.vret g hE () rfl trivial (by rw [hr, show 4096 - i = 0 by omega]; rfl) ⟨Nat.le_of_ble_eq_true rfl, Nat.le_of_ble_eq_true rfl⟩ dX3_takeAtoms_107
      · refine J.iload_n g dX3_takeAtoms_23 rfl rfl ?_
        refine J.iload g dX3_takeAtoms_24 rfl ?_
        refine J.iload_n g dX3_takeAtoms_26 rfl rfl ?_
        refine J.ior' g dX3_takeAtoms_27 (j_or _ _) ?_
        refine J.ixor' g dX3_takeAtoms_28 (j_xor _ _) ?_
        refine J.istore g dX3_takeAtoms_29 rfl rfl ?_
        try dsimp only [List.set_cons_zero, List.set_cons_succ]
        refine J.aload_n g dX3_takeAtoms_31 rfl rfl ?_
        refine J.iload g dX3_takeAtoms_32 rfl ?_
        refine J.iload_n g dX3_takeAtoms_34 rfl rfl ?_
        refine J.ior' g dX3_takeAtoms_35 (j_or _ _) ?_
        refine J.callV0 g (c_X3_isAtom l γ _ _ _ _ _ _ _ _ _ _ _ _ _ _ (jo_lt hrr (jlow_lt hs)) hb) jy_X3_isAtom lm_X3_95 (q0 := 0) rfl jX3.1 ⟨⟨Nat.le_of_ble_eq_true rfl, Nat.le_of_ble_eq_true rfl⟩, Nat.le_of_ble_eq_true rfl, Nat.le_of_ble_eq_true rfl⟩ (Nat.le_of_ble_eq_true rfl) rfl [0, 1, 2, 3, 4, 5] rfl rfl dX3_takeAtoms_36 ?_
        intro _ _
        dsimp only [jpush]
        refine J.if_eqB g dX3_takeAtoms_39 (tgt := 86) (by decide) (fun c_39 => ?_) (fun c_39 => ?_)
        · have hT2 := hT
          have hst := jta_2 (T := T) c_39
          refine J.iload g dX3_takeAtoms_86 rfl ?_
          refine J.iload_n g dX3_takeAtoms_88 rfl rfl ?_
          refine J.icmp_neN g dX3_takeAtoms_89 (tgt := 93) (by decide) (by omega) (by have := jot_lt hs; omega) (fun c_89 => ?_) (fun c_89 => ?_)
          · have hr2 := hr.trans (jta_n (by omega) hst c_89)
            refine J.iload g dX3_takeAtoms_93 rfl ?_
            refine J.iload_n g dX3_takeAtoms_95 rfl rfl ?_
            refine J.callS0 g (c_X3_nextSet l γ _ _ hrr (jot_lt hs)) jy_X3_nextSet lm_X3_98 ⟨⟨Nat.le_of_ble_eq_true rfl, Nat.le_of_ble_eq_true rfl⟩, Nat.le_of_ble_eq_true rfl, Nat.le_of_ble_eq_true rfl⟩ (Nat.le_of_ble_eq_true rfl) rfl [] rfl rfl dX3_takeAtoms_96 ?_
            intro _ _
            dsimp only [jpush]
            refine J.istore g dX3_takeAtoms_99 rfl rfl ?_
            try dsimp only [List.set_cons_zero, List.set_cons_succ]
            refine J.iincN g 1 dX3_takeAtoms_101 rfl rfl ?_
            try dsimp only [List.set_cons_zero, List.set_cons_succ]
            refine J.goto g dX3_takeAtoms_104 (tgt := 15) (by decide) ?_
            exact J.lvle (jle_s (jle_s (jle_s (jle_s (jle_s (jle_s (jle_n jle_0))))))) (ih_lp (i + 1) (jnx r (s ^^^ jlow s)) _ (by omega) (by omega) (jnx_lt (jot_lt hs)) hT2 hr2)
          · have hr3 := hr.trans (jta_e (by omega) hst c_89)
            exact J.vret g hE () rfl trivial (by rw [hr3]) ⟨Nat.le_of_ble_eq_true rfl, Nat.le_of_ble_eq_true rfl⟩ dX3_takeAtoms_92
        · refine J.iload g dX3_takeAtoms_42 rfl ?_
          refine J.if_ltN g dX3_takeAtoms_44 (tgt := 86) (by decide) (by have := jx2_lt hs hrr (jlow_lt hs); omega) ?_
          refine J.iload g dX3_takeAtoms_47 rfl ?_
          refine J.iload_n g dX3_takeAtoms_49 rfl rfl ?_
          refine J.icmp_geN g dX3_takeAtoms_50 (tgt := 86) (by decide) (by have := jx2_lt hs hrr (jlow_lt hs); omega) (by omega) (fun c_50 => ?_) (fun c_50 => ?_)
          · have hT2 := hT
            have hst := jta_3 (m0 := m0) (m1 := m1) (T := T) c_50
            refine J.iload g dX3_takeAtoms_86 rfl ?_
            refine J.iload_n g dX3_takeAtoms_88 rfl rfl ?_
            refine J.icmp_neN g dX3_takeAtoms_89 (tgt := 93) (by decide) (by omega) (by have := jot_lt hs; omega) (fun c_89 => ?_) (fun c_89 => ?_)
            · have hr2 := hr.trans (jta_n (by omega) hst c_89)
              refine J.iload g dX3_takeAtoms_93 rfl ?_
              refine J.iload_n g dX3_takeAtoms_95 rfl rfl ?_
              refine J.callS0 g (c_X3_nextSet l γ _ _ hrr (jot_lt hs)) jy_X3_nextSet lm_X3_98 ⟨⟨Nat.le_of_ble_eq_true rfl, Nat.le_of_ble_eq_true rfl⟩, Nat.le_of_ble_eq_true rfl, Nat.le_of_ble_eq_true rfl⟩ (Nat.le_of_ble_eq_true rfl) rfl [] rfl rfl dX3_takeAtoms_96 ?_
              intro _ _
              dsimp only [jpush]
              refine J.istore g dX3_takeAtoms_99 rfl rfl ?_
              try dsimp only [List.set_cons_zero, List.set_cons_succ]
              refine J.iincN g 1 dX3_takeAtoms_101 rfl rfl ?_
              try dsimp only [List.set_cons_zero, List.set_cons_succ]
              refine J.goto g dX3_takeAtoms_104 (tgt := 15) (by decide) ?_
              exact J.lvle (jle_s (jle_s (jle_s (jle_s (jle_s (jle_s (jle_n jle_0))))))) (ih_lp (i + 1) (jnx r (s ^^^ jlow s)) _ (by omega) (by omega) (jnx_lt (jot_lt hs)) hT2 hr2)
            · have hr3 := hr.trans (jta_e (by omega) hst c_89)
              exact J.vret g hE () rfl trivial (by rw [hr3]) ⟨Nat.le_of_ble_eq_true rfl, Nat.le_of_ble_eq_true rfl⟩ dX3_takeAtoms_92
          · refine J.iload_n g dX3_takeAtoms_53 rfl rfl ?_
            refine J.sipush (v := nI 4096) g dX3_takeAtoms_54 (by decide +kernel) ?_
            refine J.icmp_geN g dX3_takeAtoms_57 (tgt := 86) (by decide) (by omega) (by omega) (fun c_57 => absurd c_57 (by omega)) (fun c_57 => ?_)
            refine J.aload_n g dX3_takeAtoms_60 rfl rfl ?_
            refine J.get g jX3 2 (by decide) lf_X3_18 0 rfl rfl dX3_takeAtoms_61 ?_
            refine J.iload g dX3_takeAtoms_64 rfl ?_
            refine J.aload_n g dX3_takeAtoms_66 rfl rfl ?_
            refine J.get g jX3 2 (by decide) lf_X3_18 0 rfl rfl dX3_takeAtoms_67 ?_
            refine J.iload g dX3_takeAtoms_70 rfl ?_
            refine J.baldN g 3 rfl (by omega) (by decide) dX3_takeAtoms_72 ?_
            refine J.aload_n g dX3_takeAtoms_73 rfl rfl ?_
            refine J.get g jX3 2 (by decide) lf_X3_18 0 rfl rfl dX3_takeAtoms_74 ?_
            refine J.iload_n g dX3_takeAtoms_77 rfl rfl ?_
            refine J.baldN g 3 rfl (by omega) (by decide) dX3_takeAtoms_78 ?_
            refine J.iconstN g 1 dX3_takeAtoms_79 ?_
            refine J.iaddN g dX3_takeAtoms_80 ?_
            refine J.mmin g lm_X3_56 jm_min_s jm_i jm_min_c ⟨Nat.le_of_ble_eq_true rfl, Nat.le_of_ble_eq_true rfl, Nat.le_of_ble_eq_true rfl, Nat.le_of_ble_eq_true rfl⟩ (j_mn (by have := hT (s ^^^ (r ||| jlow s)); omega) (by have := hT s; omega)) dX3_takeAtoms_81 ?_
            refine J.i2b g dX3_takeAtoms_84 (j_i2b _ (by have := hT (s ^^^ (r ||| jlow s)); omega)) ?_
            have hT2 : ∀ t, va_up T (s ^^^ (r ||| jlow s)) (min (T (s ^^^ (r ||| jlow s))) (T s + 1)) t < 128 := fun t => by unfold va_up; split <;> (first | exact hT t | (have := hT (s ^^^ (r ||| jlow s)); omega))
            have hst := jta_1 (T := T) c_39 c_50
            refine J.bastN g 3 rfl (by omega) (by decide) (by have := hT (s ^^^ (r ||| jlow s)); omega) dX3_takeAtoms_85 ?_
            try dsimp only [List.set_cons_zero, List.set_cons_succ]
            refine J.iload g dX3_takeAtoms_86 rfl ?_
            refine J.iload_n g dX3_takeAtoms_88 rfl rfl ?_
            refine J.icmp_neN g dX3_takeAtoms_89 (tgt := 93) (by decide) (by omega) (by have := jot_lt hs; omega) (fun c_89 => ?_) (fun c_89 => ?_)
            · have hr2 := hr.trans (jta_n (by omega) hst c_89)
              refine J.iload g dX3_takeAtoms_93 rfl ?_
              refine J.iload_n g dX3_takeAtoms_95 rfl rfl ?_
              refine J.callS0 g (c_X3_nextSet l γ _ _ hrr (jot_lt hs)) jy_X3_nextSet lm_X3_98 ⟨⟨Nat.le_of_ble_eq_true rfl, Nat.le_of_ble_eq_true rfl⟩, Nat.le_of_ble_eq_true rfl, Nat.le_of_ble_eq_true rfl⟩ (Nat.le_of_ble_eq_true rfl) rfl [] rfl rfl dX3_takeAtoms_96 ?_
              intro _ _
              dsimp only [jpush]
              refine J.istore g dX3_takeAtoms_99 rfl rfl ?_
              try dsimp only [List.set_cons_zero, List.set_cons_succ]
              refine J.iincN g 1 dX3_takeAtoms_101 rfl rfl ?_
              try dsimp only [List.set_cons_zero, List.set_cons_succ]
              refine J.goto g dX3_takeAtoms_104 (tgt := 15) (by decide) ?_
              exact J.lvle (jle_s (jle_s (jle_s (jle_s (jle_s (jle_s (jle_n jle_0))))))) (ih_lp (i + 1) (jnx r (s ^^^ jlow s)) _ (by omega) (by omega) (jnx_lt (jot_lt hs)) hT2 hr2)
            · have hr3 := hr.trans (jta_e (by omega) hst c_89)
              exact J.vret g hE () rfl trivial (by rw [hr3]) ⟨Nat.le_of_ble_eq_true rfl, Nat.le_of_ble_eq_true rfl⟩ dX3_takeAtoms_92
  exact J.lvle (jle_s (jle_s (jle_s (jle_s (jle_s (jle_s (jle_n jle_0))))))) (lp _ 0 0 m2 (Nat.lt_succ_self _) (by omega) (by omega) ht rfl)
