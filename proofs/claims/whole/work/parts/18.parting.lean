set_option maxHeartbeats 4000000 in
set_option maxRecDepth 100000 in
theorem c_X3_fewestAtoms (l : Launch) (γ : jγ) (pp b0 b1 b2 ra re sgc wh rn : Nat) (m0 m1 m2 rf : Nat → Nat)  : jM (S := Unit) l γ yX3_fewestAtoms cX3_fewestAtoms 1 (some .int) ({ frames := 0, cells := 0, slots := 0, locals := 0 } : Room) [.ref pp] [(pp, .inr (3, [.ref b0, .ref b1, .ref b2, .ref ra, .int (nI sgc), .int (nI wh)])), (b0, .inl (γ.2 1, 4096, .inl (fun j => nI (m0 j)))), (b1, .inl (γ.2 1, 4096, .inl (fun j => nI (m1 j)))), (b2, .inl (γ.2 1, 4096, .inl (fun j => nI (m2 j)))), (ra, .inr (6, [.ref re, .int (nI rn)])), (re, .inl (γ.2 0, 12, .inl (fun j => nI (rf j))))] (fun w0 => some (.int (nI (m2 0)))) (fun w0 => [(pp, .inr (3, [.ref b0, .ref b1, .ref b2, .ref ra, .int (nI sgc), .int (nI wh)])), (b0, .inl (γ.2 1, 4096, .inl (fun j => nI (m0 j)))), (b1, .inl (γ.2 1, 4096, .inl (fun j => nI (m1 j)))), (b2, .inl (γ.2 1, 4096, .inl (fun j => nI (m2 j)))), (ra, .inr (6, [.ref re, .int (nI rn)])), (re, .inl (γ.2 0, 12, .inl (fun j => nI (rf j))))]) (fun w0 => True) := by
  refine jM.of [some (.ref pp)] rfl (Nat.le_of_ble_eq_true rfl) (by decide) ?_
  intro x g hE hin
  refine J.aload_n g dX3_fewestAtoms_0 rfl rfl ?_
  refine J.get g jX3 2 (by decide) lf_X3_18 0 rfl rfl dX3_fewestAtoms_1 ?_
  refine J.iconstN g 0 dX3_fewestAtoms_4 ?_
  refine J.baldN g 3 rfl (by omega) (by decide) dX3_fewestAtoms_5 ?_
  exact J.iret g hE () rfl trivial rfl ⟨Nat.le_of_ble_eq_true rfl, Nat.le_of_ble_eq_true rfl⟩ dX3_fewestAtoms_6
set_option maxHeartbeats 4000000 in
set_option maxRecDepth 100000 in
theorem c_X3_madeBy (l : Launch) (γ : jγ) (pp b0 b1 b2 ra re sgc wh rn : Nat) (m0 m1 m2 rf : Nat → Nat) (s : Nat) (hs : s < 4096) : jM (S := Unit) l γ yX3_madeBy cX3_madeBy 2 (some .int) ({ frames := 0, cells := 0, slots := 0, locals := 0 } : Room) [.ref pp, .int (nI s)] [(pp, .inr (3, [.ref b0, .ref b1, .ref b2, .ref ra, .int (nI sgc), .int (nI wh)])), (b0, .inl (γ.2 1, 4096, .inl (fun j => nI (m0 j)))), (b1, .inl (γ.2 1, 4096, .inl (fun j => nI (m1 j)))), (b2, .inl (γ.2 1, 4096, .inl (fun j => nI (m2 j)))), (ra, .inr (6, [.ref re, .int (nI rn)])), (re, .inl (γ.2 0, 12, .inl (fun j => nI (rf j))))] (fun w0 => some (.int (nI (m0 s)))) (fun w0 => [(pp, .inr (3, [.ref b0, .ref b1, .ref b2, .ref ra, .int (nI sgc), .int (nI wh)])), (b0, .inl (γ.2 1, 4096, .inl (fun j => nI (m0 j)))), (b1, .inl (γ.2 1, 4096, .inl (fun j => nI (m1 j)))), (b2, .inl (γ.2 1, 4096, .inl (fun j => nI (m2 j)))), (ra, .inr (6, [.ref re, .int (nI rn)])), (re, .inl (γ.2 0, 12, .inl (fun j => nI (rf j))))]) (fun w0 => True) := by
  refine jM.of [some (.ref pp), some (.int (nI s))] rfl (Nat.le_of_ble_eq_true rfl) (by decide) ?_
  intro x g hE hin
  refine J.iload_n g dX3_madeBy_0 rfl rfl ?_
  refine J.if_ltN g dX3_madeBy_1 (tgt := 20) (by decide) (by omega) ?_
  refine J.iload_n g dX3_madeBy_4 rfl rfl ?_
  refine J.sipush (v := nI 4096) g dX3_madeBy_5 (by decide +kernel) ?_
  refine J.icmp_geN g dX3_madeBy_8 (tgt := 20) (by decide) (by omega) (by omega) (fun c_8 => absurd c_8 (by omega)) (fun c_8 => ?_)
  refine J.aload_n g dX3_madeBy_11 rfl rfl ?_
  refine J.get g jX3 0 (by decide) lf_X3_9 0 rfl rfl dX3_madeBy_12 ?_
  refine J.iload_n g dX3_madeBy_15 rfl rfl ?_
  refine J.baldN g 1 rfl (by omega) (by decide) dX3_madeBy_16 ?_
  refine J.goto g dX3_madeBy_17 (tgt := 21) (by decide) ?_
  exact J.iret g hE () rfl trivial rfl ⟨Nat.le_of_ble_eq_true rfl, Nat.le_of_ble_eq_true rfl⟩ dX3_madeBy_21
set_option maxHeartbeats 4000000 in
set_option maxRecDepth 100000 in
theorem c_X3_mostOf (l : Launch) (γ : jγ) (pp b0 b1 b2 ra re sgc wh rn : Nat) (m0 m1 m2 rf : Nat → Nat) (s : Nat) (hs : s < 4096) : jM (S := Unit) l γ yX3_mostOf cX3_mostOf 2 (some .int) ({ frames := 0, cells := 0, slots := 0, locals := 0 } : Room) [.ref pp, .int (nI s)] [(pp, .inr (3, [.ref b0, .ref b1, .ref b2, .ref ra, .int (nI sgc), .int (nI wh)])), (b0, .inl (γ.2 1, 4096, .inl (fun j => nI (m0 j)))), (b1, .inl (γ.2 1, 4096, .inl (fun j => nI (m1 j)))), (b2, .inl (γ.2 1, 4096, .inl (fun j => nI (m2 j)))), (ra, .inr (6, [.ref re, .int (nI rn)])), (re, .inl (γ.2 0, 12, .inl (fun j => nI (rf j))))] (fun w0 => some (.int (nI (m1 s)))) (fun w0 => [(pp, .inr (3, [.ref b0, .ref b1, .ref b2, .ref ra, .int (nI sgc), .int (nI wh)])), (b0, .inl (γ.2 1, 4096, .inl (fun j => nI (m0 j)))), (b1, .inl (γ.2 1, 4096, .inl (fun j => nI (m1 j)))), (b2, .inl (γ.2 1, 4096, .inl (fun j => nI (m2 j)))), (ra, .inr (6, [.ref re, .int (nI rn)])), (re, .inl (γ.2 0, 12, .inl (fun j => nI (rf j))))]) (fun w0 => True) := by
  refine jM.of [some (.ref pp), some (.int (nI s))] rfl (Nat.le_of_ble_eq_true rfl) (by decide) ?_
  intro x g hE hin
  refine J.iload_n g dX3_mostOf_0 rfl rfl ?_
  refine J.if_ltN g dX3_mostOf_1 (tgt := 20) (by decide) (by omega) ?_
  refine J.iload_n g dX3_mostOf_4 rfl rfl ?_
  refine J.sipush (v := nI 4096) g dX3_mostOf_5 (by decide +kernel) ?_
  refine J.icmp_geN g dX3_mostOf_8 (tgt := 20) (by decide) (by omega) (by omega) (fun c_8 => absurd c_8 (by omega)) (fun c_8 => ?_)
  refine J.aload_n g dX3_mostOf_11 rfl rfl ?_
  refine J.get g jX3 1 (by decide) lf_X3_15 0 rfl rfl dX3_mostOf_12 ?_
  refine J.iload_n g dX3_mostOf_15 rfl rfl ?_
  refine J.baldN g 2 rfl (by omega) (by decide) dX3_mostOf_16 ?_
  refine J.goto g dX3_mostOf_17 (tgt := 21) (by decide) ?_
  exact J.iret g hE () rfl trivial rfl ⟨Nat.le_of_ble_eq_true rfl, Nat.le_of_ble_eq_true rfl⟩ dX3_mostOf_21
set_option maxHeartbeats 4000000 in
set_option maxRecDepth 100000 in
theorem c_X3_mostAtoms (l : Launch) (γ : jγ) (pp b0 b1 b2 ra re sgc wh rn : Nat) (m0 m1 m2 rf : Nat → Nat) (hw : wh < 4096) : jM (S := Unit) l γ yX3_mostAtoms cX3_mostAtoms 1 (some .int) ({ frames := 1, cells := 0, slots := 0, locals := 21 } : Room) [.ref pp] [(pp, .inr (3, [.ref b0, .ref b1, .ref b2, .ref ra, .int (nI sgc), .int (nI wh)])), (b0, .inl (γ.2 1, 4096, .inl (fun j => nI (m0 j)))), (b1, .inl (γ.2 1, 4096, .inl (fun j => nI (m1 j)))), (b2, .inl (γ.2 1, 4096, .inl (fun j => nI (m2 j)))), (ra, .inr (6, [.ref re, .int (nI rn)])), (re, .inl (γ.2 0, 12, .inl (fun j => nI (rf j))))] (fun w0 => some (.int (nI (m1 wh)))) (fun w0 => [(pp, .inr (3, [.ref b0, .ref b1, .ref b2, .ref ra, .int (nI sgc), .int (nI wh)])), (b0, .inl (γ.2 1, 4096, .inl (fun j => nI (m0 j)))), (b1, .inl (γ.2 1, 4096, .inl (fun j => nI (m1 j)))), (b2, .inl (γ.2 1, 4096, .inl (fun j => nI (m2 j)))), (ra, .inr (6, [.ref re, .int (nI rn)])), (re, .inl (γ.2 0, 12, .inl (fun j => nI (rf j))))]) (fun w0 => True) := by
  refine jM.of [some (.ref pp)] rfl (Nat.le_of_ble_eq_true rfl) (by decide) ?_
  intro x g hE hin
  refine J.aload_n g dX3_mostAtoms_0 rfl rfl ?_
  refine J.aload_n g dX3_mostAtoms_1 rfl rfl ?_
  refine J.get g jX3 5 (by decide) lf_X3_32 0 rfl rfl dX3_mostAtoms_2 ?_
  refine J.callV0 g (c_X3_mostOf l γ _ _ _ _ _ _ _ _ _ _ _ _ _ _ (by omega)) jy_X3_mostOf lm_X3_35 (q0 := 0) rfl jX3.1 ⟨⟨Nat.le_of_ble_eq_true rfl, Nat.le_of_ble_eq_true rfl⟩, Nat.le_of_ble_eq_true rfl, Nat.le_of_ble_eq_true rfl⟩ (Nat.le_of_ble_eq_true rfl) rfl [0, 1, 2, 3, 4, 5] rfl rfl dX3_mostAtoms_5 ?_
  intro _ _
  dsimp only [jpush]
  exact J.iret g hE () rfl trivial rfl ⟨Nat.le_of_ble_eq_true rfl, Nat.le_of_ble_eq_true rfl⟩ dX3_mostAtoms_8
set_option maxHeartbeats 4000000 in
set_option maxRecDepth 100000 in
theorem c_X3_isAtom (l : Launch) (γ : jγ) (pp b0 b1 b2 ra re sgc wh rn : Nat) (m0 m1 m2 rf : Nat → Nat) (s : Nat) (hs : s < 4096) (hb : ∀ s, m0 s < 128 ∧ m1 s < 128) : jM (S := Unit) l γ yX3_isAtom cX3_isAtom 2 (some .boolean) ({ frames := 1, cells := 0, slots := 0, locals := 21 } : Room) [.ref pp, .int (nI s)] [(pp, .inr (3, [.ref b0, .ref b1, .ref b2, .ref ra, .int (nI sgc), .int (nI wh)])), (b0, .inl (γ.2 1, 4096, .inl (fun j => nI (m0 j)))), (b1, .inl (γ.2 1, 4096, .inl (fun j => nI (m1 j)))), (b2, .inl (γ.2 1, 4096, .inl (fun j => nI (m2 j)))), (ra, .inr (6, [.ref re, .int (nI rn)])), (re, .inl (γ.2 0, 12, .inl (fun j => nI (rf j))))] (fun w0 => some (.int (jB (jia m0 m1 s)))) (fun w0 => [(pp, .inr (3, [.ref b0, .ref b1, .ref b2, .ref ra, .int (nI sgc), .int (nI wh)])), (b0, .inl (γ.2 1, 4096, .inl (fun j => nI (m0 j)))), (b1, .inl (γ.2 1, 4096, .inl (fun j => nI (m1 j)))), (b2, .inl (γ.2 1, 4096, .inl (fun j => nI (m2 j)))), (ra, .inr (6, [.ref re, .int (nI rn)])), (re, .inl (γ.2 0, 12, .inl (fun j => nI (rf j))))]) (fun w0 => True) := by
  refine jM.of [some (.ref pp), some (.int (nI s))] rfl (Nat.le_of_ble_eq_true rfl) (by decide) ?_
  intro x g hE hin
  refine J.aload_n g dX3_isAtom_0 rfl rfl ?_
  refine J.iload_n g dX3_isAtom_1 rfl rfl ?_
  refine J.callV0 g (c_X3_madeBy l γ _ _ _ _ _ _ _ _ _ _ _ _ _ _ (by omega)) jy_X3_madeBy lm_X3_72 (q0 := 0) rfl jX3.1 ⟨⟨Nat.le_of_ble_eq_true rfl, Nat.le_of_ble_eq_true rfl⟩, Nat.le_of_ble_eq_true rfl, Nat.le_of_ble_eq_true rfl⟩ (Nat.le_of_ble_eq_true rfl) rfl [0, 1, 2, 3, 4, 5] rfl rfl dX3_isAtom_2 ?_
  intro _ _
  dsimp only [jpush]
  refine J.if_neN g dX3_isAtom_5 (tgt := 21) (by decide) (by have := (hb s).1; omega) (fun c_5 => ?_) (fun c_5 => ?_)
  · refine J.iconstN g 0 dX3_isAtom_21 ?_
    exact J.zret (by first | rfl | exact j_nz _) g hE () (jB_f (by first | exact jia_1 c_5 | exact jia_2 c_14 | exact jia_3 c_5 c_14)) trivial rfl ⟨Nat.le_of_ble_eq_true rfl, Nat.le_of_ble_eq_true rfl⟩ dX3_isAtom_22
  · refine J.aload_n g dX3_isAtom_8 rfl rfl ?_
    refine J.iload_n g dX3_isAtom_9 rfl rfl ?_
    refine J.callV0 g (c_X3_mostOf l γ _ _ _ _ _ _ _ _ _ _ _ _ _ _ (by omega)) jy_X3_mostOf lm_X3_35 (q0 := 0) rfl jX3.1 ⟨⟨Nat.le_of_ble_eq_true rfl, Nat.le_of_ble_eq_true rfl⟩, Nat.le_of_ble_eq_true rfl, Nat.le_of_ble_eq_true rfl⟩ (Nat.le_of_ble_eq_true rfl) rfl [0, 1, 2, 3, 4, 5] rfl rfl dX3_isAtom_10 ?_
    intro _ _
    dsimp only [jpush]
    refine J.iconstN g 1 dX3_isAtom_13 ?_
    refine J.icmp_neN g dX3_isAtom_14 (tgt := 21) (by decide) (by have := (hb s).2; omega) (by omega) (fun c_14 => ?_) (fun c_14 => ?_)
    · refine J.iconstN g 0 dX3_isAtom_21 ?_
      exact J.zret (by first | rfl | exact j_nz _) g hE () (jB_f (by first | exact jia_1 c_5 | exact jia_2 c_14 | exact jia_3 c_5 c_14)) trivial rfl ⟨Nat.le_of_ble_eq_true rfl, Nat.le_of_ble_eq_true rfl⟩ dX3_isAtom_22
    · refine J.iconstN g 1 dX3_isAtom_17 ?_
      refine J.goto g dX3_isAtom_18 (tgt := 22) (by decide) ?_
      exact J.zret (by first | rfl | exact j_nz _) g hE () (jB_t (by first | exact jia_1 c_5 | exact jia_2 c_14 | exact jia_3 c_5 c_14)) trivial rfl ⟨Nat.le_of_ble_eq_true rfl, Nat.le_of_ble_eq_true rfl⟩ dX3_isAtom_22
set_option maxHeartbeats 4000000 in
set_option maxRecDepth 100000 in
theorem c_X3_nextSet (l : Launch) (γ : jγ) (r w : Nat) (hr : r < 4096) (hw : w < 4096) : jM (S := Unit) l γ yX3_nextSet cX3_nextSet 2 (some .int) ({ frames := 0, cells := 0, slots := 0, locals := 0 } : Room) [.int (nI r), .int (nI w)] [] (fun w0 => some (.int (nI (jnx r w)))) (fun w0 => []) (fun w0 => True) := by
  refine jM.of [some (.int (nI r)), some (.int (nI w))] rfl (Nat.le_of_ble_eq_true rfl) (by decide) ?_
  intro x g hE hin
  refine J.iload_n g dX3_nextSet_0 rfl rfl ?_
  refine J.iload_n g dX3_nextSet_1 rfl rfl ?_
  refine J.isub g dX3_nextSet_2 ?_
  refine J.iload_n g dX3_nextSet_3 rfl rfl ?_
  refine J.iand' g dX3_nextSet_4 (j_nx hr hw) ?_
  exact J.iret g hE () rfl trivial rfl ⟨Nat.le_of_ble_eq_true rfl, Nat.le_of_ble_eq_true rfl⟩ dX3_nextSet_5
set_option maxHeartbeats 4000000 in
set_option maxRecDepth 100000 in
theorem c_X3_mostWithoutOne (l : Launch) (γ : jγ) (pp b0 b1 b2 ra re sgc wh rn : Nat) (m0 m1 m2 rf : Nat → Nat) (s : Nat) (hs : s < 4096) (hn : rn ≤ 12) (hb : ∀ s, m0 s < 128 ∧ m1 s < 128) : jM (S := Unit) l γ yX3_mostWithoutOne cX3_mostWithoutOne 4 (some .int) ({ frames := 1, cells := 0, slots := 0, locals := 24 } : Room) [.ref pp, .int (nI s)] [(pp, .inr (3, [.ref b0, .ref b1, .ref b2, .ref ra, .int (nI sgc), .int (nI wh)])), (b0, .inl (γ.2 1, 4096, .inl (fun j => nI (m0 j)))), (b1, .inl (γ.2 1, 4096, .inl (fun j => nI (m1 j)))), (b2, .inl (γ.2 1, 4096, .inl (fun j => nI (m2 j)))), (ra, .inr (6, [.ref re, .int (nI rn)])), (re, .inl (γ.2 0, 12, .inl (fun j => nI (rf j))))] (fun w0 => some (.int (nI (jmwo m1 s rn)))) (fun w0 => [(pp, .inr (3, [.ref b0, .ref b1, .ref b2, .ref ra, .int (nI sgc), .int (nI wh)])), (b0, .inl (γ.2 1, 4096, .inl (fun j => nI (m0 j)))), (b1, .inl (γ.2 1, 4096, .inl (fun j => nI (m1 j)))), (b2, .inl (γ.2 1, 4096, .inl (fun j => nI (m2 j)))), (ra, .inr (6, [.ref re, .int (nI rn)])), (re, .inl (γ.2 0, 12, .inl (fun j => nI (rf j))))]) (fun w0 => True) := by
  refine jM.of [some (.ref pp), some (.int (nI s)), none, none] rfl (Nat.le_of_ble_eq_true rfl) (by decide) ?_
  intro x g hE hin
  refine J.iconstN g 0 dX3_mostWithoutOne_0 ?_
  refine J.istore_n g dX3_mostWithoutOne_1 rfl rfl rfl ?_
  try dsimp only [List.set_cons_zero, List.set_cons_succ]
  refine J.iconstN g 0 dX3_mostWithoutOne_2 ?_
  refine J.istore_n g dX3_mostWithoutOne_3 rfl rfl rfl ?_
  try dsimp only [List.set_cons_zero, List.set_cons_succ]
  have lp : ∀ (d : Nat) (i : Nat), rn - i < d → (i ≤ rn) → J γ l x [(pp, .inr (3, [.ref b0, .ref b1, .ref b2, .ref ra, .int (nI sgc), .int (nI wh)])), (b0, .inl (γ.2 1, 4096, .inl (fun j => nI (m0 j)))), (b1, .inl (γ.2 1, 4096, .inl (fun j => nI (m1 j)))), (b2, .inl (γ.2 1, 4096, .inl (fun j => nI (m2 j)))), (ra, .inr (6, [.ref re, .int (nI rn)])), (re, .inl (γ.2 0, 12, .inl (fun j => nI (rf j))))] [some (.ref pp), some (.int (nI s)), some (.int (nI (jmwo m1 s i))), some (.int (nI i))] [] 0 0 4 := by
    intro d
    induction d with
    | zero => intro i hm; exact absurd hm (Nat.not_lt_zero _)
    | succ d ih_lp =>
      intro i hm hi
      refine J.iload_n g dX3_mostWithoutOne_4 rfl rfl ?_
      refine J.aload_n g dX3_mostWithoutOne_5 rfl rfl ?_
      refine J.get g jX3 3 (by decide) lf_X3_24 0 rfl rfl dX3_mostWithoutOne_6 ?_
      refine J.callV0 g (c_X6_length l γ _ _ _ _ ) jy_X6_length lm_X3_62 (q0 := 4) rfl jX6.1 ⟨⟨Nat.le_of_ble_eq_true rfl, Nat.le_of_ble_eq_true rfl⟩, Nat.le_of_ble_eq_true rfl, Nat.le_of_ble_eq_true rfl⟩ (Nat.le_of_ble_eq_true rfl) rfl [4, 5] rfl rfl dX3_mostWithoutOne_9 ?_
      intro _ _
      dsimp only [jpush]
      refine J.icmp_geN g dX3_mostWithoutOne_12 (tgt := 43) (by decide) (by omega) (by omega) (fun c_12 => ?_) (fun c_12 => ?_)
      · refine J.iload_n g dX3_mostWithoutOne_43 rfl rfl ?_
        exact J.iret g hE () (by rw [show rn = i by omega]) trivial rfl ⟨Nat.le_of_ble_eq_true rfl, Nat.le_of_ble_eq_true rfl⟩ dX3_mostWithoutOne_44
      · refine J.iload_n g dX3_mostWithoutOne_15 rfl rfl ?_
        refine J.iload_n g dX3_mostWithoutOne_16 rfl rfl ?_
        refine J.iushr g dX3_mostWithoutOne_17 (j_ushr (by omega) (by omega)) ?_
        refine J.iconstN g 1 dX3_mostWithoutOne_18 ?_
        refine J.iand' g dX3_mostWithoutOne_19 (j_and _ _) ?_
        refine J.if_eqN g dX3_mostWithoutOne_20 (tgt := 37) (by decide) (by have := @Nat.and_le_right (s >>> i) 1; omega) (fun c_20 => ?_) (fun c_20 => ?_)
        · have hq : jmwo m1 s (i + 1) = jmwo m1 s i := by rw [jmwo, if_neg (by rw [jtb0.mp c_20]; decide)]
          refine J.iincN g 1 dX3_mostWithoutOne_37 rfl rfl ?_
          try dsimp only [List.set_cons_zero, List.set_cons_succ]
          refine J.goto g dX3_mostWithoutOne_40 (tgt := 4) (by decide) ?_
          have ih2 := ih_lp (i + 1) (by omega) (by omega)
          rw [hq] at ih2
          exact J.lvle (jle_s (jle_s (jle_s (jle_s jle_0)))) ih2
        · have hq : jmwo m1 s (i + 1) = max (jmwo m1 s i) (m1 (s ^^^ 2 ^ i)) := by rw [jmwo, if_pos (jtb1.mp c_20)]
          refine J.iload_n g dX3_mostWithoutOne_23 rfl rfl ?_
          refine J.aload_n g dX3_mostWithoutOne_24 rfl rfl ?_
          refine J.iload_n g dX3_mostWithoutOne_25 rfl rfl ?_
          refine J.iconstN g 1 dX3_mostWithoutOne_26 ?_
          refine J.iload_n g dX3_mostWithoutOne_27 rfl rfl ?_
          refine J.ishl' g dX3_mostWithoutOne_28 (j_pow (by omega)) ?_
          refine J.ixor' g dX3_mostWithoutOne_29 (j_xor _ _) ?_
          refine J.callV0 g (c_X3_mostOf l γ _ _ _ _ _ _ _ _ _ _ _ _ _ _ (jx_lt hs (by omega))) jy_X3_mostOf lm_X3_35 (q0 := 0) rfl jX3.1 ⟨⟨Nat.le_of_ble_eq_true rfl, Nat.le_of_ble_eq_true rfl⟩, Nat.le_of_ble_eq_true rfl, Nat.le_of_ble_eq_true rfl⟩ (Nat.le_of_ble_eq_true rfl) rfl [0, 1, 2, 3, 4, 5] rfl rfl dX3_mostWithoutOne_30 ?_
          intro _ _
          dsimp only [jpush]
          refine J.mmax g lm_X3_84 jm_max_s jm_i jm_max_c ⟨Nat.le_of_ble_eq_true rfl, Nat.le_of_ble_eq_true rfl, Nat.le_of_ble_eq_true rfl, Nat.le_of_ble_eq_true rfl⟩ (j_mx (by have := jmwo_lt (fun t => (hb t).2) s i; omega) (by have := (hb (s ^^^ 2 ^ i)).2; omega)) dX3_mostWithoutOne_33 ?_
          refine J.istore_n g dX3_mostWithoutOne_36 rfl rfl rfl ?_
          try dsimp only [List.set_cons_zero, List.set_cons_succ]
          refine J.iincN g 1 dX3_mostWithoutOne_37 rfl rfl ?_
          try dsimp only [List.set_cons_zero, List.set_cons_succ]
          refine J.goto g dX3_mostWithoutOne_40 (tgt := 4) (by decide) ?_
          have ih2 := ih_lp (i + 1) (by omega) (by omega)
          rw [hq] at ih2
          exact J.lvle (jle_s (jle_s (jle_s (jle_s jle_0)))) ih2
  exact J.lvle (jle_s (jle_s (jle_s (jle_s jle_0)))) (lp _ 0 (Nat.lt_succ_self _) (Nat.zero_le _))
set_option maxHeartbeats 4000000 in
set_option maxRecDepth 100000 in
theorem c_X3_hasLastOfEach (l : Launch) (γ : jγ) (pp b0 b1 b2 ra re sgc wh rn : Nat) (m0 m1 m2 rf : Nat → Nat) (s : Nat) (hs : s < 4096) (hn : rn ≤ 12) (hf : ∀ j, j < rn → rf j < 24) : jM (S := Unit) l γ yX3_hasLastOfEach cX3_hasLastOfEach 4 (some .boolean) ({ frames := 2, cells := 0, slots := 0, locals := 42 } : Room) [.ref pp, .int (nI s)] [(pp, .inr (3, [.ref b0, .ref b1, .ref b2, .ref ra, .int (nI sgc), .int (nI wh)])), (b0, .inl (γ.2 1, 4096, .inl (fun j => nI (m0 j)))), (b1, .inl (γ.2 1, 4096, .inl (fun j => nI (m1 j)))), (b2, .inl (γ.2 1, 4096, .inl (fun j => nI (m2 j)))), (ra, .inr (6, [.ref re, .int (nI rn)])), (re, .inl (γ.2 0, 12, .inl (fun j => nI (rf j))))] (fun w0 => some (.int (jB (jhle rf s rn)))) (fun w0 => [(pp, .inr (3, [.ref b0, .ref b1, .ref b2, .ref ra, .int (nI sgc), .int (nI wh)])), (b0, .inl (γ.2 1, 4096, .inl (fun j => nI (m0 j)))), (b1, .inl (γ.2 1, 4096, .inl (fun j => nI (m1 j)))), (b2, .inl (γ.2 1, 4096, .inl (fun j => nI (m2 j)))), (ra, .inr (6, [.ref re, .int (nI rn)])), (re, .inl (γ.2 0, 12, .inl (fun j => nI (rf j))))]) (fun w0 => True) := by
  refine jM.of [some (.ref pp), some (.int (nI s)), none, none] rfl (Nat.le_of_ble_eq_true rfl) (by decide) ?_
  intro x g hE hin
  refine J.iconstN g 0 dX3_hasLastOfEach_0 ?_
  refine J.istore_n g dX3_hasLastOfEach_1 rfl rfl rfl ?_
  try dsimp only [List.set_cons_zero, List.set_cons_succ]
  have lp : ∀ (d : Nat) (i : Nat), rn - i < d → (i ≤ rn) → (∀ p, p < i → s.testBit p = true → ∀ o, o < rn → p < o → s.testBit o = false → rf o ≠ rf p) → J γ l x [(pp, .inr (3, [.ref b0, .ref b1, .ref b2, .ref ra, .int (nI sgc), .int (nI wh)])), (b0, .inl (γ.2 1, 4096, .inl (fun j => nI (m0 j)))), (b1, .inl (γ.2 1, 4096, .inl (fun j => nI (m1 j)))), (b2, .inl (γ.2 1, 4096, .inl (fun j => nI (m2 j)))), (ra, .inr (6, [.ref re, .int (nI rn)])), (re, .inl (γ.2 0, 12, .inl (fun j => nI (rf j))))] [some (.ref pp), some (.int (nI s)), some (.int (nI i)), none] [] 0 0 2 := by
    intro d
    induction d with
    | zero => intro i hm; exact absurd hm (Nat.not_lt_zero _)
    | succ d ih_lp =>
      intro i hm hi hh
      refine J.iload_n g dX3_hasLastOfEach_2 rfl rfl ?_
      refine J.aload_n g dX3_hasLastOfEach_3 rfl rfl ?_
      refine J.get g jX3 3 (by decide) lf_X3_24 0 rfl rfl dX3_hasLastOfEach_4 ?_
      refine J.callV0 g (c_X6_length l γ _ _ _ _ ) jy_X6_length lm_X3_62 (q0 := 4) rfl jX6.1 ⟨⟨Nat.le_of_ble_eq_true rfl, Nat.le_of_ble_eq_true rfl⟩, Nat.le_of_ble_eq_true rfl, Nat.le_of_ble_eq_true rfl⟩ (Nat.le_of_ble_eq_true rfl) rfl [4, 5] rfl rfl dX3_hasLastOfEach_7 ?_
      intro _ _
      dsimp only [jpush]
      refine J.icmp_geN g dX3_hasLastOfEach_10 (tgt := 77) (by decide) (by omega) (by omega) (fun c_10 => ?_) (fun c_10 => ?_)
      · refine J.iconstN g 1 dX3_hasLastOfEach_77 ?_
        exact J.zret (by first | rfl | exact j_nz _) g hE () (jB_t (by first | exact jhle_t (by omega) hh | exact jhle_f (by omega) ho.1 (by omega) (jtb1.mp c_18) (jtb0.mp c_41) c_60)) trivial rfl ⟨Nat.le_of_ble_eq_true rfl, Nat.le_of_ble_eq_true rfl⟩ dX3_hasLastOfEach_78
      · refine J.iload_n g dX3_hasLastOfEach_13 rfl rfl ?_
        refine J.iload_n g dX3_hasLastOfEach_14 rfl rfl ?_
        refine J.iushr g dX3_hasLastOfEach_15 (j_ushr (by omega) (by omega)) ?_
        refine J.iconstN g 1 dX3_hasLastOfEach_16 ?_
        refine J.iand' g dX3_hasLastOfEach_17 (j_and _ _) ?_
        refine J.if_eqN g dX3_hasLastOfEach_18 (tgt := 71) (by decide) (by have := @Nat.and_le_right (s >>> i) 1; omega) (fun c_18 => ?_) (fun c_18 => ?_)
        · have hnx := lt_s (p := fun p => s.testBit p = true → ∀ o, o < rn → p < o → s.testBit o = false → rf o ≠ rf p) hh (fun h => absurd h (by rw [jtb0.mp c_18]; decide))
          refine J.iincN g 1 dX3_hasLastOfEach_71 rfl rfl ?_
          try dsimp only [List.set_cons_zero, List.set_cons_succ]
          refine J.goto g dX3_hasLastOfEach_74 (tgt := 2) (by decide) ?_
          exact J.lvle (jle_s (jle_s (jle_s (jle_n jle_0)))) (ih_lp (i + 1) (by omega) (by omega) hnx)
        · refine J.iload_n g dX3_hasLastOfEach_21 rfl rfl ?_
          refine J.iconstN g 1 dX3_hasLastOfEach_22 ?_
          refine J.iaddN g dX3_hasLastOfEach_23 ?_
          refine J.istore_n g dX3_hasLastOfEach_24 rfl rfl rfl ?_
          try dsimp only [List.set_cons_zero, List.set_cons_succ]
          have lq : ∀ (d : Nat) (o : Nat), rn - o < d → (i < o ∧ o ≤ rn) → (∀ q, q < o → i < q → s.testBit q = false → rf q ≠ rf i) → J γ l x [(pp, .inr (3, [.ref b0, .ref b1, .ref b2, .ref ra, .int (nI sgc), .int (nI wh)])), (b0, .inl (γ.2 1, 4096, .inl (fun j => nI (m0 j)))), (b1, .inl (γ.2 1, 4096, .inl (fun j => nI (m1 j)))), (b2, .inl (γ.2 1, 4096, .inl (fun j => nI (m2 j)))), (ra, .inr (6, [.ref re, .int (nI rn)])), (re, .inl (γ.2 0, 12, .inl (fun j => nI (rf j))))] [some (.ref pp), some (.int (nI s)), some (.int (nI i)), some (.int (nI o))] [] 0 0 25 := by
            intro d
            induction d with
            | zero => intro o hm; exact absurd hm (Nat.not_lt_zero _)
            | succ d ih_lq =>
              intro o hm ho h2
              refine J.iload_n g dX3_hasLastOfEach_25 rfl rfl ?_
              refine J.aload_n g dX3_hasLastOfEach_26 rfl rfl ?_
              refine J.get g jX3 3 (by decide) lf_X3_24 0 rfl rfl dX3_hasLastOfEach_27 ?_
              refine J.callV0 g (c_X6_length l γ _ _ _ _ ) jy_X6_length lm_X3_62 (q0 := 4) rfl jX6.1 ⟨⟨Nat.le_of_ble_eq_true rfl, Nat.le_of_ble_eq_true rfl⟩, Nat.le_of_ble_eq_true rfl, Nat.le_of_ble_eq_true rfl⟩ (Nat.le_of_ble_eq_true rfl) rfl [4, 5] rfl rfl dX3_hasLastOfEach_30 ?_
              intro _ _
              dsimp only [jpush]
              refine J.icmp_geN g dX3_hasLastOfEach_33 (tgt := 71) (by decide) (by omega) (by omega) (fun c_33 => ?_) (fun c_33 => ?_)
              · have hnx := lt_s (p := fun p => s.testBit p = true → ∀ o, o < rn → p < o → s.testBit o = false → rf o ≠ rf p) hh (fun _ q hq hiq hz => h2 q (by omega) hiq hz)
                refine J.iincN g 1 dX3_hasLastOfEach_71 rfl rfl ?_
                try dsimp only [List.set_cons_zero, List.set_cons_succ]
                refine J.goto g dX3_hasLastOfEach_74 (tgt := 2) (by decide) ?_
                exact J.lvle (jle_s (jle_s (jle_s (jle_n jle_0)))) (ih_lp (i + 1) (by omega) (by omega) hnx)
              · refine J.iload_n g dX3_hasLastOfEach_36 rfl rfl ?_
                refine J.iload_n g dX3_hasLastOfEach_37 rfl rfl ?_
                refine J.iushr g dX3_hasLastOfEach_38 (j_ushr (by omega) (by omega)) ?_
                refine J.iconstN g 1 dX3_hasLastOfEach_39 ?_
                refine J.iand' g dX3_hasLastOfEach_40 (j_and _ _) ?_
                refine J.if_neN g dX3_hasLastOfEach_41 (tgt := 65) (by decide) (by have := @Nat.and_le_right (s >>> o) 1; omega) (fun c_41 => ?_) (fun c_41 => ?_)
                · have hny := lt_s (p := fun q => i < q → s.testBit q = false → rf q ≠ rf i) h2 (fun _ hz => absurd hz (by rw [jtb1.mp c_41]; decide))
                  refine J.iincN g 1 dX3_hasLastOfEach_65 rfl rfl ?_
                  try dsimp only [List.set_cons_zero, List.set_cons_succ]
                  refine J.goto g dX3_hasLastOfEach_68 (tgt := 25) (by decide) ?_
                  exact J.lvle (jle_s (jle_s (jle_s (jle_s jle_0)))) (ih_lq (o + 1) (by omega) (by omega) hny)
                · refine J.aload_n g dX3_hasLastOfEach_44 rfl rfl ?_
                  refine J.get g jX3 3 (by decide) lf_X3_24 0 rfl rfl dX3_hasLastOfEach_45 ?_
                  refine J.iload_n g dX3_hasLastOfEach_48 rfl rfl ?_
                  refine J.callV0 g (c_X6_elementAt_n l γ _ _ _ _ _ hn (by omega)) jy_X6_elementAt lm_X3_75 (q0 := 4) rfl jX6.1 ⟨⟨Nat.le_of_ble_eq_true rfl, Nat.le_of_ble_eq_true rfl⟩, Nat.le_of_ble_eq_true rfl, Nat.le_of_ble_eq_true rfl⟩ (Nat.le_of_ble_eq_true rfl) rfl [4, 5] rfl rfl dX3_hasLastOfEach_49 ?_
                  intro _ _
                  dsimp only [jpush]
                  refine J.aload_n g dX3_hasLastOfEach_52 rfl rfl ?_
                  refine J.get g jX3 3 (by decide) lf_X3_24 0 rfl rfl dX3_hasLastOfEach_53 ?_
                  refine J.iload_n g dX3_hasLastOfEach_56 rfl rfl ?_
                  refine J.callV0 g (c_X6_elementAt_n l γ _ _ _ _ _ hn (by omega)) jy_X6_elementAt lm_X3_75 (q0 := 4) rfl jX6.1 ⟨⟨Nat.le_of_ble_eq_true rfl, Nat.le_of_ble_eq_true rfl⟩, Nat.le_of_ble_eq_true rfl, Nat.le_of_ble_eq_true rfl⟩ (Nat.le_of_ble_eq_true rfl) rfl [4, 5] rfl rfl dX3_hasLastOfEach_57 ?_
                  intro _ _
                  dsimp only [jpush]
                  refine J.icmp_neN g dX3_hasLastOfEach_60 (tgt := 65) (by decide) (by have := hf o (by omega); omega) (by have := hf i (by omega); omega) (fun c_60 => ?_) (fun c_60 => ?_)
                  · have hny := lt_s (p := fun q => i < q → s.testBit q = false → rf q ≠ rf i) h2 (fun _ _ => c_60)
                    refine J.iincN g 1 dX3_hasLastOfEach_65 rfl rfl ?_
                    try dsimp only [List.set_cons_zero, List.set_cons_succ]
                    refine J.goto g dX3_hasLastOfEach_68 (tgt := 25) (by decide) ?_
                    exact J.lvle (jle_s (jle_s (jle_s (jle_s jle_0)))) (ih_lq (o + 1) (by omega) (by omega) hny)
                  · refine J.iconstN g 0 dX3_hasLastOfEach_63 ?_
                    exact J.zret (by first | rfl | exact j_nz _) g hE () (jB_f (by first | exact jhle_t (by omega) hh | exact jhle_f (by omega) ho.1 (by omega) (jtb1.mp c_18) (jtb0.mp c_41) c_60)) trivial rfl ⟨Nat.le_of_ble_eq_true rfl, Nat.le_of_ble_eq_true rfl⟩ dX3_hasLastOfEach_64
          exact J.lvle (jle_s (jle_s (jle_s (jle_s jle_0)))) (lq _ (i + 1) (Nat.lt_succ_self _) (by omega) (fun q h1 h2 => absurd h1 (by omega)))
  exact J.lvle (jle_s (jle_s (jle_s (jle_n jle_0)))) (lp _ 0 (Nat.lt_succ_self _) (Nat.zero_le _) (fun p h => absurd h (Nat.not_lt_zero _)))
set_option maxHeartbeats 4000000 in
set_option maxRecDepth 100000 in
theorem c_X3_takeAtoms (l : Launch) (γ : jγ) (pp b0 b1 b2 ra re sgc wh rn : Nat) (m0 m1 m2 rf : Nat → Nat) (s : Nat) (hs : s < 4096) (h0 : 0 < s) (ht : ∀ t, m2 t < 128) (hb : ∀ s, m0 s < 128 ∧ m1 s < 128) : jM (S := Unit) l γ yX3_takeAtoms cX3_takeAtoms 7 none ({ frames := 2, cells := 0, slots := 0, locals := 42 } : Room) [.ref pp, .int (nI s)] [(pp, .inr (3, [.ref b0, .ref b1, .ref b2, .ref ra, .int (nI sgc), .int (nI wh)])), (b0, .inl (γ.2 1, 4096, .inl (fun j => nI (m0 j)))), (b1, .inl (γ.2 1, 4096, .inl (fun j => nI (m1 j)))), (b2, .inl (γ.2 1, 4096, .inl (fun j => nI (m2 j)))), (ra, .inr (6, [.ref re, .int (nI rn)])), (re, .inl (γ.2 0, 12, .inl (fun j => nI (rf j))))] (fun w0 => none) (fun w0 => [(pp, .inr (3, [.ref b0, .ref b1, .ref b2, .ref ra, .int (nI sgc), .int (nI wh)])), (b0, .inl (γ.2 1, 4096, .inl (fun j => nI (m0 j)))), (b1, .inl (γ.2 1, 4096, .inl (fun j => nI (m1 j)))), (b2, .inl (γ.2 1, 4096, .inl (fun j => nI ((jta m0 m1 s 4096 0 m2) j)))), (ra, .inr (6, [.ref re, .int (nI rn)])), (re, .inl (γ.2 0, 12, .inl (fun j => nI (rf j))))]) (fun w0 => True) := by
  refine jM.of [some (.ref pp), some (.int (nI s)), none, none, none, none, none] rfl (Nat.le_of_ble_eq_true rfl) (by decide) ?_
  intro x g hE hin
  refine J.iload_n g dX3_takeAtoms_0 rfl rfl ?_
  refine J.iload_n g dX3_takeAtoms_1 rfl rfl ?_
  refine J.ineg g dX3_takeAtoms_2 ?_
  refine J.iand' g dX3_takeAtoms_3 (j_low (by omega)) ?_
  refine J.istore_n g dX3_takeAtoms_4 rfl rfl rfl ?_
  try dsimp only [List.set_cons_zero, List.set_cons_succ]
  refine J.iload_n g dX3_takeAtoms_5 rfl rfl ?_
  refine J.iload_n g dX3_takeAtoms_6 rfl rfl ?_
  refine J.ixor' g dX3_takeAtoms_7 (j_xor _ _) ?_
  refine J.istore_n g dX3_takeAtoms_8 rfl rfl rfl ?_
  try dsimp only [List.set_cons_zero, List.set_cons_succ]
  refine J.iconstN g 0 dX3_takeAtoms_9 ?_
  refine J.istore g dX3_takeAtoms_10 rfl rfl ?_
  try dsimp only [List.set_cons_zero, List.set_cons_succ]
  refine J.iconstN g 0 dX3_takeAtoms_12 ?_
  refine J.istore g dX3_takeAtoms_13 rfl rfl ?_
  try dsimp only [List.set_cons_zero, List.set_cons_succ]
  have lp : ∀ (d : Nat) (i r : Nat) (T : Nat → Nat), 4096 - i < d → (i ≤ 4096) → (r < 4096) → (∀ t, T t < 128) → (jta m0 m1 s 4096 0 m2 = jta m0 m1 s (4096 - i) r T) → J γ l x [(pp, .inr (3, [.ref b0, .ref b1, .ref b2, .ref ra, .int (nI sgc), .int (nI wh)])), (b0, .inl (γ.2 1, 4096, .inl (fun j => nI (m0 j)))), (b1, .inl (γ.2 1, 4096, .inl (fun j => nI (m1 j)))), (b2, .inl (γ.2 1, 4096, .inl (fun j => nI (T j)))), (ra, .inr (6, [.ref re, .int (nI rn)])), (re, .inl (γ.2 0, 12, .inl (fun j => nI (rf j))))] [some (.ref pp), some (.int (nI s)), some (.int (nI (jlow s))), some (.int (nI (s ^^^ jlow s))), some (.int (nI r)), some (.int (nI i)), none] [] 0 0 15 := by
    intro d
    induction d with
    | zero => intro i r T hm; exact absurd hm (Nat.not_lt_zero _)
    | succ d ih_lp =>
      intro i r T hm hi hrr hT hr
      refine J.iload g dX3_takeAtoms_15 rfl ?_
      refine J.sipush (v := nI 4096) g dX3_takeAtoms_17 (by decide +kernel) ?_
      refine J.icmp_geN g dX3_takeAtoms_20 (tgt := 107) (by decide) (by omega) (by omega) (fun c_20 => ?_) (fun c_20 => ?_)
      · exact J.vret g hE () rfl trivial (by rw [hr, show 4096 - i = 0 by omega]; rfl) ⟨Nat.le_of_ble_eq_true rfl, Nat.le_of_ble_eq_true rfl⟩ dX3_takeAtoms_107
      · refine J.iload_n g dX3_takeAtoms_23 rfl rfl ?_
        refine J.iload g dX3_takeAtoms_24 rfl ?_
        refine J.iload_n g dX3_takeAtoms_26 rfl rfl ?_
        refine J.ior' g dX3_takeAtoms_27 (j_or _ _) ?_
        refine J.ixor' g dX3_takeAtoms_28 (j_xor _ _) ?_
        refine J.istore g dX3_takeAtoms_29 rfl rfl ?_
        try dsimp only [List.set_cons_zero, List.set_cons_succ]
        refine J.aload_n g dX3_takeAtoms_31 rfl rfl ?_
        refine J.iload g dX3_takeAtoms_32 rfl ?_
        refine J.iload_n g dX3_takeAtoms_34 rfl rfl ?_
        refine J.ior' g dX3_takeAtoms_35 (j_or _ _) ?_
        refine J.callV0 g (c_X3_isAtom l γ _ _ _ _ _ _ _ _ _ _ _ _ _ _ (jo_lt hrr (jlow_lt hs)) hb) jy_X3_isAtom lm_X3_95 (q0 := 0) rfl jX3.1 ⟨⟨Nat.le_of_ble_eq_true rfl, Nat.le_of_ble_eq_true rfl⟩, Nat.le_of_ble_eq_true rfl, Nat.le_of_ble_eq_true rfl⟩ (Nat.le_of_ble_eq_true rfl) rfl [0, 1, 2, 3, 4, 5] rfl rfl dX3_takeAtoms_36 ?_
        intro _ _
        dsimp only [jpush]
        refine J.if_eqB g dX3_takeAtoms_39 (tgt := 86) (by decide) (fun c_39 => ?_) (fun c_39 => ?_)
        · have hT2 := hT
          have hst := jta_2 (T := T) c_39
          refine J.iload g dX3_takeAtoms_86 rfl ?_
          refine J.iload_n g dX3_takeAtoms_88 rfl rfl ?_
          refine J.icmp_neN g dX3_takeAtoms_89 (tgt := 93) (by decide) (by omega) (by have := jot_lt hs; omega) (fun c_89 => ?_) (fun c_89 => ?_)
          · have hr2 := hr.trans (jta_n (by omega) hst c_89)
            refine J.iload g dX3_takeAtoms_93 rfl ?_
            refine J.iload_n g dX3_takeAtoms_95 rfl rfl ?_
            refine J.callS0 g (c_X3_nextSet l γ _ _ hrr (jot_lt hs)) jy_X3_nextSet lm_X3_98 ⟨⟨Nat.le_of_ble_eq_true rfl, Nat.le_of_ble_eq_true rfl⟩, Nat.le_of_ble_eq_true rfl, Nat.le_of_ble_eq_true rfl⟩ (Nat.le_of_ble_eq_true rfl) rfl [] rfl rfl dX3_takeAtoms_96 ?_
            intro _ _
            dsimp only [jpush]
            refine J.istore g dX3_takeAtoms_99 rfl rfl ?_
            try dsimp only [List.set_cons_zero, List.set_cons_succ]
            refine J.iincN g 1 dX3_takeAtoms_101 rfl rfl ?_
            try dsimp only [List.set_cons_zero, List.set_cons_succ]
            refine J.goto g dX3_takeAtoms_104 (tgt := 15) (by decide) ?_
            exact J.lvle (jle_s (jle_s (jle_s (jle_s (jle_s (jle_s (jle_n jle_0))))))) (ih_lp (i + 1) (jnx r (s ^^^ jlow s)) _ (by omega) (by omega) (jnx_lt (jot_lt hs)) hT2 hr2)
          · have hr3 := hr.trans (jta_e (by omega) hst c_89)
            exact J.vret g hE () rfl trivial (by rw [hr3]) ⟨Nat.le_of_ble_eq_true rfl, Nat.le_of_ble_eq_true rfl⟩ dX3_takeAtoms_92
        · refine J.iload g dX3_takeAtoms_42 rfl ?_
          refine J.if_ltN g dX3_takeAtoms_44 (tgt := 86) (by decide) (by have := jx2_lt hs hrr (jlow_lt hs); omega) ?_
          refine J.iload g dX3_takeAtoms_47 rfl ?_
          refine J.iload_n g dX3_takeAtoms_49 rfl rfl ?_
          refine J.icmp_geN g dX3_takeAtoms_50 (tgt := 86) (by decide) (by have := jx2_lt hs hrr (jlow_lt hs); omega) (by omega) (fun c_50 => ?_) (fun c_50 => ?_)
          · have hT2 := hT
            have hst := jta_3 (m0 := m0) (m1 := m1) (T := T) c_50
            refine J.iload g dX3_takeAtoms_86 rfl ?_
            refine J.iload_n g dX3_takeAtoms_88 rfl rfl ?_
            refine J.icmp_neN g dX3_takeAtoms_89 (tgt := 93) (by decide) (by omega) (by have := jot_lt hs; omega) (fun c_89 => ?_) (fun c_89 => ?_)
            · have hr2 := hr.trans (jta_n (by omega) hst c_89)
              refine J.iload g dX3_takeAtoms_93 rfl ?_
              refine J.iload_n g dX3_takeAtoms_95 rfl rfl ?_
              refine J.callS0 g (c_X3_nextSet l γ _ _ hrr (jot_lt hs)) jy_X3_nextSet lm_X3_98 ⟨⟨Nat.le_of_ble_eq_true rfl, Nat.le_of_ble_eq_true rfl⟩, Nat.le_of_ble_eq_true rfl, Nat.le_of_ble_eq_true rfl⟩ (Nat.le_of_ble_eq_true rfl) rfl [] rfl rfl dX3_takeAtoms_96 ?_
              intro _ _
              dsimp only [jpush]
              refine J.istore g dX3_takeAtoms_99 rfl rfl ?_
              try dsimp only [List.set_cons_zero, List.set_cons_succ]
              refine J.iincN g 1 dX3_takeAtoms_101 rfl rfl ?_
              try dsimp only [List.set_cons_zero, List.set_cons_succ]
              refine J.goto g dX3_takeAtoms_104 (tgt := 15) (by decide) ?_
              exact J.lvle (jle_s (jle_s (jle_s (jle_s (jle_s (jle_s (jle_n jle_0))))))) (ih_lp (i + 1) (jnx r (s ^^^ jlow s)) _ (by omega) (by omega) (jnx_lt (jot_lt hs)) hT2 hr2)
            · have hr3 := hr.trans (jta_e (by omega) hst c_89)
              exact J.vret g hE () rfl trivial (by rw [hr3]) ⟨Nat.le_of_ble_eq_true rfl, Nat.le_of_ble_eq_true rfl⟩ dX3_takeAtoms_92
          · refine J.iload_n g dX3_takeAtoms_53 rfl rfl ?_
            refine J.sipush (v := nI 4096) g dX3_takeAtoms_54 (by decide +kernel) ?_
            refine J.icmp_geN g dX3_takeAtoms_57 (tgt := 86) (by decide) (by omega) (by omega) (fun c_57 => absurd c_57 (by omega)) (fun c_57 => ?_)
            refine J.aload_n g dX3_takeAtoms_60 rfl rfl ?_
            refine J.get g jX3 2 (by decide) lf_X3_18 0 rfl rfl dX3_takeAtoms_61 ?_
            refine J.iload g dX3_takeAtoms_64 rfl ?_
            refine J.aload_n g dX3_takeAtoms_66 rfl rfl ?_
            refine J.get g jX3 2 (by decide) lf_X3_18 0 rfl rfl dX3_takeAtoms_67 ?_
            refine J.iload g dX3_takeAtoms_70 rfl ?_
            refine J.baldN g 3 rfl (by omega) (by decide) dX3_takeAtoms_72 ?_
            refine J.aload_n g dX3_takeAtoms_73 rfl rfl ?_
            refine J.get g jX3 2 (by decide) lf_X3_18 0 rfl rfl dX3_takeAtoms_74 ?_
            refine J.iload_n g dX3_takeAtoms_77 rfl rfl ?_
            refine J.baldN g 3 rfl (by omega) (by decide) dX3_takeAtoms_78 ?_
            refine J.iconstN g 1 dX3_takeAtoms_79 ?_
            refine J.iaddN g dX3_takeAtoms_80 ?_
            refine J.mmin g lm_X3_56 jm_min_s jm_i jm_min_c ⟨Nat.le_of_ble_eq_true rfl, Nat.le_of_ble_eq_true rfl, Nat.le_of_ble_eq_true rfl, Nat.le_of_ble_eq_true rfl⟩ (j_mn (by have := hT (s ^^^ (r ||| jlow s)); omega) (by have := hT s; omega)) dX3_takeAtoms_81 ?_
            refine J.i2b g dX3_takeAtoms_84 (j_i2b _ (by have := hT (s ^^^ (r ||| jlow s)); omega)) ?_
            have hT2 : ∀ t, va_up T (s ^^^ (r ||| jlow s)) (min (T (s ^^^ (r ||| jlow s))) (T s + 1)) t < 128 := fun t => by unfold va_up; split <;> (first | exact hT t | (have := hT (s ^^^ (r ||| jlow s)); omega))
            have hst := jta_1 (T := T) c_39 c_50
            refine J.bastN g 3 rfl (by omega) (by decide) (by have := hT (s ^^^ (r ||| jlow s)); omega) dX3_takeAtoms_85 ?_
            try dsimp only [List.set_cons_zero, List.set_cons_succ]
            refine J.iload g dX3_takeAtoms_86 rfl ?_
            refine J.iload_n g dX3_takeAtoms_88 rfl rfl ?_
            refine J.icmp_neN g dX3_takeAtoms_89 (tgt := 93) (by decide) (by omega) (by have := jot_lt hs; omega) (fun c_89 => ?_) (fun c_89 => ?_)
            · have hr2 := hr.trans (jta_n (by omega) hst c_89)
              refine J.iload g dX3_takeAtoms_93 rfl ?_
              refine J.iload_n g dX3_takeAtoms_95 rfl rfl ?_
              refine J.callS0 g (c_X3_nextSet l γ _ _ hrr (jot_lt hs)) jy_X3_nextSet lm_X3_98 ⟨⟨Nat.le_of_ble_eq_true rfl, Nat.le_of_ble_eq_true rfl⟩, Nat.le_of_ble_eq_true rfl, Nat.le_of_ble_eq_true rfl⟩ (Nat.le_of_ble_eq_true rfl) rfl [] rfl rfl dX3_takeAtoms_96 ?_
              intro _ _
              dsimp only [jpush]
              refine J.istore g dX3_takeAtoms_99 rfl rfl ?_
              try dsimp only [List.set_cons_zero, List.set_cons_succ]
              refine J.iincN g 1 dX3_takeAtoms_101 rfl rfl ?_
              try dsimp only [List.set_cons_zero, List.set_cons_succ]
              refine J.goto g dX3_takeAtoms_104 (tgt := 15) (by decide) ?_
              exact J.lvle (jle_s (jle_s (jle_s (jle_s (jle_s (jle_s (jle_n jle_0))))))) (ih_lp (i + 1) (jnx r (s ^^^ jlow s)) _ (by omega) (by omega) (jnx_lt (jot_lt hs)) hT2 hr2)
            · have hr3 := hr.trans (jta_e (by omega) hst c_89)
              exact J.vret g hE () rfl trivial (by rw [hr3]) ⟨Nat.le_of_ble_eq_true rfl, Nat.le_of_ble_eq_true rfl⟩ dX3_takeAtoms_92
  exact J.lvle (jle_s (jle_s (jle_s (jle_s (jle_s (jle_s (jle_n jle_0))))))) (lp _ 0 0 m2 (Nat.lt_succ_self _) (by omega) (by omega) ht rfl)
set_option maxHeartbeats 4000000 in
set_option maxRecDepth 100000 in
theorem c_X3_fillTaken (l : Launch) (γ : jγ) (pp b0 b1 b2 ra re sgc wh rn : Nat) (m0 m1 m2 rf : Nat → Nat) (hw : wh < 4096) (hn : rn ≤ 12) (hf : ∀ j, j < rn → rf j < 24) (hb : ∀ s, m0 s < 128 ∧ m1 s < 128) (hb2 : ∀ s, m2 s < 128) : jM (S := Unit) l γ yX3_fillTaken cX3_fillTaken 2 none ({ frames := 3, cells := 0, slots := 0, locals := 68 } : Room) [.ref pp] [(pp, .inr (3, [.ref b0, .ref b1, .ref b2, .ref ra, .int (nI sgc), .int (nI wh)])), (b0, .inl (γ.2 1, 4096, .inl (fun j => nI (m0 j)))), (b1, .inl (γ.2 1, 4096, .inl (fun j => nI (m1 j)))), (b2, .inl (γ.2 1, 4096, .inl (fun j => nI (m2 j)))), (ra, .inr (6, [.ref re, .int (nI rn)])), (re, .inl (γ.2 0, 12, .inl (fun j => nI (rf j))))] (fun w0 => none) (fun w0 => [(pp, .inr (3, [.ref b0, .ref b1, .ref b2, .ref ra, .int (nI sgc), .int (nI wh)])), (b0, .inl (γ.2 1, 4096, .inl (fun j => nI (m0 j)))), (b1, .inl (γ.2 1, 4096, .inl (fun j => nI (m1 j)))), (b2, .inl (γ.2 1, 4096, .inl (fun j => nI ((jfl m0 m1 rf rn wh (va_up (fun t => if t < 4096 then 127 else m2 t) wh 0)) j)))), (ra, .inr (6, [.ref re, .int (nI rn)])), (re, .inl (γ.2 0, 12, .inl (fun j => nI (rf j))))]) (fun w0 => True) := by
  refine jM.of [some (.ref pp), none] rfl (Nat.le_of_ble_eq_true rfl) (by decide) ?_
  intro x g hE hin
  refine J.iconstN g 0 dX3_fillTaken_0 ?_
  refine J.istore_n g dX3_fillTaken_1 rfl rfl rfl ?_
  try dsimp only [List.set_cons_zero, List.set_cons_succ]
  have lp : ∀ (d : Nat) (i : Nat) (T : Nat → Nat), 4096 - i < d → (i ≤ 4096) → (∀ t, T t = if t < i then 127 else m2 t) → J γ l x [(pp, .inr (3, [.ref b0, .ref b1, .ref b2, .ref ra, .int (nI sgc), .int (nI wh)])), (b0, .inl (γ.2 1, 4096, .inl (fun j => nI (m0 j)))), (b1, .inl (γ.2 1, 4096, .inl (fun j => nI (m1 j)))), (b2, .inl (γ.2 1, 4096, .inl (fun j => nI (T j)))), (ra, .inr (6, [.ref re, .int (nI rn)])), (re, .inl (γ.2 0, 12, .inl (fun j => nI (rf j))))] [some (.ref pp), some (.int (nI i))] [] 0 0 2 := by
    intro d
    induction d with
    | zero => intro i T hm; exact absurd hm (Nat.not_lt_zero _)
    | succ d ih_lp =>
      intro i T hm hi hh
      refine J.iload_n g dX3_fillTaken_2 rfl rfl ?_
      refine J.sipush (v := nI 4096) g dX3_fillTaken_3 (by decide +kernel) ?_
      refine J.icmp_geN g dX3_fillTaken_6 (tgt := 23) (by decide) (by omega) (by omega) (fun c_6 => ?_) (fun c_6 => ?_)
      · have hz : T = fun t => if t < 4096 then 127 else m2 t := by funext t; rw [hh, show i = 4096 by omega]
        subst hz
        refine J.aload_n g dX3_fillTaken_23 rfl rfl ?_
        refine J.get g jX3 5 (by decide) lf_X3_32 0 rfl rfl dX3_fillTaken_24 ?_
        refine J.if_ltN g dX3_fillTaken_27 (tgt := 40) (by decide) (by omega) ?_
        refine J.aload_n g dX3_fillTaken_30 rfl rfl ?_
        refine J.get g jX3 5 (by decide) lf_X3_32 0 rfl rfl dX3_fillTaken_31 ?_
        refine J.sipush (v := nI 4096) g dX3_fillTaken_34 (by decide +kernel) ?_
        refine J.icmp_ltN g dX3_fillTaken_37 (tgt := 41) (by decide) (by omega) (by omega) (fun c_37 => ?_) (fun c_37 => absurd c_37 (by omega))
        refine J.aload_n g dX3_fillTaken_41 rfl rfl ?_
        refine J.get g jX3 2 (by decide) lf_X3_18 0 rfl rfl dX3_fillTaken_42 ?_
        refine J.aload_n g dX3_fillTaken_45 rfl rfl ?_
        refine J.get g jX3 5 (by decide) lf_X3_32 0 rfl rfl dX3_fillTaken_46 ?_
        refine J.iconstN g 0 dX3_fillTaken_49 ?_
        refine J.bastN g 3 rfl (by omega) (by decide) (by omega) dX3_fillTaken_50 ?_
        try dsimp only [List.set_cons_zero, List.set_cons_succ]
        refine J.aload_n g dX3_fillTaken_51 rfl rfl ?_
        refine J.get g jX3 5 (by decide) lf_X3_32 0 rfl rfl dX3_fillTaken_52 ?_
        refine J.istore_n g dX3_fillTaken_55 rfl rfl rfl ?_
        try dsimp only [List.set_cons_zero, List.set_cons_succ]
        have lq : ∀ (d : Nat) (q : Nat) (T : Nat → Nat), q < d → (q < 4096) → (∀ t, T t < 128) → (jfl m0 m1 rf rn wh (va_up (fun t => if t < 4096 then 127 else m2 t) wh 0) = jfl m0 m1 rf rn q T) → J γ l x [(pp, .inr (3, [.ref b0, .ref b1, .ref b2, .ref ra, .int (nI sgc), .int (nI wh)])), (b0, .inl (γ.2 1, 4096, .inl (fun j => nI (m0 j)))), (b1, .inl (γ.2 1, 4096, .inl (fun j => nI (m1 j)))), (b2, .inl (γ.2 1, 4096, .inl (fun j => nI (T j)))), (ra, .inr (6, [.ref re, .int (nI rn)])), (re, .inl (γ.2 0, 12, .inl (fun j => nI (rf j))))] [some (.ref pp), some (.int (nI q))] [] 0 0 56 := by
          intro d
          induction d with
          | zero => intro q T hm; exact absurd hm (Nat.not_lt_zero _)
          | succ d ih_lq =>
            intro q T hm hq hT hr
            refine J.iload_n g dX3_fillTaken_56 rfl rfl ?_
            refine J.if_leN g dX3_fillTaken_57 (tgt := 97) (by decide) (by omega) (fun c_57 => ?_) (fun c_57 => ?_)
            · exact J.vret g hE () rfl trivial (by rw [hr, c_57]; rfl) ⟨Nat.le_of_ble_eq_true rfl, Nat.le_of_ble_eq_true rfl⟩ dX3_fillTaken_97
            · obtain ⟨q, rfl⟩ : ∃ z, q = z + 1 := ⟨q - 1, by omega⟩
              refine J.iload_n g dX3_fillTaken_60 rfl rfl ?_
              refine J.sipush (v := nI 4096) g dX3_fillTaken_61 (by decide +kernel) ?_
              refine J.icmp_geN g dX3_fillTaken_64 (tgt := 97) (by decide) (by omega) (by omega) (fun c_64 => absurd c_64 (by omega)) (fun c_64 => ?_)
              refine J.aload_n g dX3_fillTaken_67 rfl rfl ?_
              refine J.get g jX3 2 (by decide) lf_X3_18 0 rfl rfl dX3_fillTaken_68 ?_
              refine J.iload_n g dX3_fillTaken_71 rfl rfl ?_
              refine J.baldN g 3 rfl (by omega) (by decide) dX3_fillTaken_72 ?_
              refine J.bipush (v := nI 127) g dX3_fillTaken_73 (by decide +kernel) ?_
              refine J.icmp_eqN g dX3_fillTaken_75 (tgt := 91) (by decide) (by have := hT (q + 1); omega) (by omega) (fun c_75 => ?_) (fun c_75 => ?_)
              · have hT2 := hT
                have hr2 := hr.trans (by rw [jfl, if_neg (fun z => z.1 c_75)])
                refine J.idecN g dX3_fillTaken_91 rfl rfl (by omega) ?_
                try dsimp only [List.set_cons_zero, List.set_cons_succ]
                refine J.goto g dX3_fillTaken_94 (tgt := 56) (by decide) ?_
                exact J.lvle (jle_s (jle_s jle_0)) (ih_lq q _ (by omega) (by omega) hT2 hr2)
              · refine J.aload_n g dX3_fillTaken_78 rfl rfl ?_
                refine J.iload_n g dX3_fillTaken_79 rfl rfl ?_
                refine J.callV0 g (c_X3_hasLastOfEach l γ _ _ _ _ _ _ _ _ _ _ _ _ _ _ (by omega) hn hf) jy_X3_hasLastOfEach lm_X3_87 (q0 := 0) rfl jX3.1 ⟨⟨Nat.le_of_ble_eq_true rfl, Nat.le_of_ble_eq_true rfl⟩, Nat.le_of_ble_eq_true rfl, Nat.le_of_ble_eq_true rfl⟩ (Nat.le_of_ble_eq_true rfl) rfl [0, 1, 2, 3, 4, 5] rfl rfl dX3_fillTaken_80 ?_
                intro _ _
                dsimp only [jpush]
                refine J.if_eqB g dX3_fillTaken_83 (tgt := 91) (by decide) (fun c_83 => ?_) (fun c_83 => ?_)
                · have hT2 := hT
                  have hr2 := hr.trans (by rw [jfl, if_neg (fun z => by rw [c_83] at z; exact absurd z.2 (by decide))])
                  refine J.idecN g dX3_fillTaken_91 rfl rfl (by omega) ?_
                  try dsimp only [List.set_cons_zero, List.set_cons_succ]
                  refine J.goto g dX3_fillTaken_94 (tgt := 56) (by decide) ?_
                  exact J.lvle (jle_s (jle_s jle_0)) (ih_lq q _ (by omega) (by omega) hT2 hr2)
                · have hT2 := jta_lt (m0 := m0) (m1 := m1) (s := q + 1) hT 4096 0
                  have hr2 := hr.trans (by rw [jfl, if_pos ⟨c_75, c_83⟩])
                  refine J.aload_n g dX3_fillTaken_86 rfl rfl ?_
                  refine J.iload_n g dX3_fillTaken_87 rfl rfl ?_
                  refine J.callV g (c_X3_takeAtoms l γ _ _ _ _ _ _ _ _ _ _ _ _ _ _ (by omega) (by omega) hT hb) jy_X3_takeAtoms lm_X3_91 (q0 := 0) rfl jX3.1 ⟨⟨Nat.le_of_ble_eq_true rfl, Nat.le_of_ble_eq_true rfl⟩, Nat.le_of_ble_eq_true rfl, Nat.le_of_ble_eq_true rfl⟩ (Nat.le_of_ble_eq_true rfl) rfl [0, 1, 2, 3, 4, 5] rfl (fun _ => rfl) rfl dX3_fillTaken_88 ?_
                  intro _ _
                  dsimp only [jput, List.set_cons_zero, List.set_cons_succ, Option.toList, List.append, List.cons_append, List.nil_append, List.append_nil]
                  refine J.idecN g dX3_fillTaken_91 rfl rfl (by omega) ?_
                  try dsimp only [List.set_cons_zero, List.set_cons_succ]
                  refine J.goto g dX3_fillTaken_94 (tgt := 56) (by decide) ?_
                  exact J.lvle (jle_s (jle_s jle_0)) (ih_lq q _ (by omega) (by omega) hT2 hr2)
        exact J.lvle (jle_s (jle_s jle_0)) (lq _ wh (va_up (fun t => if t < 4096 then 127 else m2 t) wh 0) (Nat.lt_succ_self _) hw (jT0_lt hb2) rfl)
      · refine J.aload_n g dX3_fillTaken_9 rfl rfl ?_
        refine J.get g jX3 2 (by decide) lf_X3_18 0 rfl rfl dX3_fillTaken_10 ?_
        refine J.iload_n g dX3_fillTaken_13 rfl rfl ?_
        refine J.bipush (v := nI 127) g dX3_fillTaken_14 (by decide +kernel) ?_
        refine J.bastN g 3 rfl (by omega) (by decide) (by omega) dX3_fillTaken_16 ?_
        try dsimp only [List.set_cons_zero, List.set_cons_succ]
        refine J.iincN g 1 dX3_fillTaken_17 rfl rfl ?_
        try dsimp only [List.set_cons_zero, List.set_cons_succ]
        refine J.goto g dX3_fillTaken_20 (tgt := 2) (by decide) ?_
        exact J.lvle (jle_s (jle_s jle_0)) (ih_lp (i + 1) (va_up T i 127) (by omega) (by omega) (jmu_step (F := fun _ => 127) hh))
  exact J.lvle (jle_s (jle_s jle_0)) (lp _ 0 m2 (Nat.lt_succ_self _) (by omega) (fun t => by rw [if_neg (by omega)]))
set_option maxHeartbeats 4000000 in
set_option maxRecDepth 100000 in
theorem c_X3_fillSetsUpTo (l : Launch) (γ : jγ) (pp b0 b1 b2 ra re sgc wh rn : Nat) (m0 m1 m2 rf : Nat → Nat) (gr mk ag cd pt od ex : Nat) (mf af : Nat → Nat) (p : Nat) (hp : p < rn) (hn : rn ≤ 12) (hf : ∀ j, j < rn → rf j < 24) (hT : jtab od mf af) (hb : ∀ s, m0 s < 128 ∧ m1 s < 128) (h0 : m0 0 = 0 ∧ m1 0 = 0) (h1 : ∀ s, s < 2 ^ p → m0 s = jsum od mf rf s rn) (h2 : jMost m0 m1 rn (2 ^ p)) (h3 : ∀ s, s < 2 ^ p → m1 s ≤ p) : jM (S := (Nat → Nat) × (Nat → Nat)) l γ yX3_fillSetsUpTo cX3_fillSetsUpTo 6 none ({ frames := 2, cells := 0, slots := 0, locals := 47 } : Room) [.ref pp, .ref gr, .int (nI p)] [(pp, .inr (3, [.ref b0, .ref b1, .ref b2, .ref ra, .int (nI sgc), .int (nI wh)])), (b0, .inl (γ.2 1, 4096, .inl (fun j => nI (m0 j)))), (b1, .inl (γ.2 1, 4096, .inl (fun j => nI (m1 j)))), (b2, .inl (γ.2 1, 4096, .inl (fun j => nI (m2 j)))), (ra, .inr (6, [.ref re, .int (nI rn)])), (re, .inl (γ.2 0, 12, .inl (fun j => nI (rf j)))), (gr, .inr (0, [.ref mk, .ref ag, .int (nI cd), .int (nI pt), .int (nI od), .int (nI ex)])), (mk, .inl (γ.2 1, 576, .inl (fun j => nI (mf j)))), (ag, .inl (γ.2 1, 24, .inl (fun j => nI (af j))))] (fun u => none) (fun u => [(pp, .inr (3, [.ref b0, .ref b1, .ref b2, .ref ra, .int (nI sgc), .int (nI wh)])), (b0, .inl (γ.2 1, 4096, .inl (fun j => nI (u.1 j)))), (b1, .inl (γ.2 1, 4096, .inl (fun j => nI (u.2 j)))), (b2, .inl (γ.2 1, 4096, .inl (fun j => nI (m2 j)))), (ra, .inr (6, [.ref re, .int (nI rn)])), (re, .inl (γ.2 0, 12, .inl (fun j => nI (rf j)))), (gr, .inr (0, [.ref mk, .ref ag, .int (nI cd), .int (nI pt), .int (nI od), .int (nI ex)])), (mk, .inl (γ.2 1, 576, .inl (fun j => nI (mf j)))), (ag, .inl (γ.2 1, 24, .inl (fun j => nI (af j))))]) (fun u => jFS od mf rf rn u.1 u.2 (2 ^ (p + 1)) (p + 1)) := by
  refine jM.of [some (.ref pp), some (.ref gr), some (.int (nI p)), none, none, none] rfl (Nat.le_of_ble_eq_true rfl) (by decide) ?_
  intro x g hE hin
  have hpw : 2 ^ p ≤ 2 ^ 11 := Nat.pow_le_pow_right (by omega) (by omega)
  have hps : 2 ^ (p + 1) = 2 * 2 ^ p := by rw [Nat.pow_succ]; omega
  have hp1 := Nat.two_pow_pos p
  refine J.iconstN g 1 dX3_fillSetsUpTo_0 ?_
  refine J.iload_n g dX3_fillSetsUpTo_1 rfl rfl ?_
  refine J.ishl' g dX3_fillSetsUpTo_2 (j_pow (by omega)) ?_
  refine J.istore_n g dX3_fillSetsUpTo_3 rfl rfl rfl ?_
  try dsimp only [List.set_cons_zero, List.set_cons_succ]
  refine J.aload_n g dX3_fillSetsUpTo_4 rfl rfl ?_
  refine J.get g jX3 3 (by decide) lf_X3_24 0 rfl rfl dX3_fillSetsUpTo_5 ?_
  refine J.iload_n g dX3_fillSetsUpTo_8 rfl rfl ?_
  refine J.callV0 g (c_X6_elementAt_n l γ _ _ _ _ _ hn hp) jy_X6_elementAt lm_X3_75 (q0 := 4) rfl jX6.1 ⟨⟨Nat.le_of_ble_eq_true rfl, Nat.le_of_ble_eq_true rfl⟩, Nat.le_of_ble_eq_true rfl, Nat.le_of_ble_eq_true rfl⟩ (Nat.le_of_ble_eq_true rfl) rfl [4, 5] rfl rfl dX3_fillSetsUpTo_9 ?_
  intro _ _
  dsimp only [jpush]
  refine J.istore g dX3_fillSetsUpTo_12 rfl rfl ?_
  try dsimp only [List.set_cons_zero, List.set_cons_succ]
  refine J.iload_n g dX3_fillSetsUpTo_14 rfl rfl ?_
  refine J.istore g dX3_fillSetsUpTo_15 rfl rfl ?_
  try dsimp only [List.set_cons_zero, List.set_cons_succ]
  have lp : ∀ (d : Nat) (s : Nat) (u1 u2 : Nat → Nat), 2 * 2 ^ p - s < d → (2 ^ p ≤ s ∧ s ≤ 2 * 2 ^ p) → (∀ t, t < 2 ^ p → u2 t = m1 t) → (jFS od mf rf rn u1 u2 s (p + 1)) → J γ l x [(pp, .inr (3, [.ref b0, .ref b1, .ref b2, .ref ra, .int (nI sgc), .int (nI wh)])), (b0, .inl (γ.2 1, 4096, .inl (fun j => nI (u1 j)))), (b1, .inl (γ.2 1, 4096, .inl (fun j => nI (u2 j)))), (b2, .inl (γ.2 1, 4096, .inl (fun j => nI (m2 j)))), (ra, .inr (6, [.ref re, .int (nI rn)])), (re, .inl (γ.2 0, 12, .inl (fun j => nI (rf j)))), (gr, .inr (0, [.ref mk, .ref ag, .int (nI cd), .int (nI pt), .int (nI od), .int (nI ex)])), (mk, .inl (γ.2 1, 576, .inl (fun j => nI (mf j)))), (ag, .inl (γ.2 1, 24, .inl (fun j => nI (af j))))] [some (.ref pp), some (.ref gr), some (.int (nI p)), some (.int (nI (2 ^ p))), some (.int (nI (rf p))), some (.int (nI s))] [] 0 0 17 := by
    intro d
    induction d with
    | zero => intro s u1 u2 hm; exact absurd hm (Nat.not_lt_zero _)
    | succ d ih_lp =>
      intro s u1 u2 hm hs hkp hi
      refine J.iload g dX3_fillSetsUpTo_17 rfl ?_
      refine J.iconstN g 2 dX3_fillSetsUpTo_19 ?_
      refine J.iload_n g dX3_fillSetsUpTo_20 rfl rfl ?_
      refine J.imulN g dX3_fillSetsUpTo_21 ?_
      refine J.icmp_geN g dX3_fillSetsUpTo_22 (tgt := 98) (by decide) (by omega) (by omega) (fun c_22 => ?_) (fun c_22 => ?_)
      · exact J.vret g hE (u1, u2) rfl (by rw [show 2 ^ (p + 1) = s by omega]; exact hi) rfl ⟨Nat.le_of_ble_eq_true rfl, Nat.le_of_ble_eq_true rfl⟩ dX3_fillSetsUpTo_98
      · refine J.iload g dX3_fillSetsUpTo_25 rfl ?_
        refine J.sipush (v := nI 4096) g dX3_fillSetsUpTo_27 (by decide +kernel) ?_
        refine J.icmp_geN g dX3_fillSetsUpTo_30 (tgt := 98) (by decide) (by omega) (by omega) (fun c_30 => absurd c_30 (by omega)) (fun c_30 => ?_)
        have hv := jpl_24 hT (u1 (s - 2 ^ p)) (rf p)
        have hle := hi.2.2.2.1 (s - 2 ^ p) (by omega)
        have hle2 : u2 (s - 2 ^ p) + 1 ≤ p + 1 := by have := h3 (s - 2 ^ p) (by omega); have := hkp (s - 2 ^ p) (by omega); omega
        have hmw := jmwo_le (c := p + 1) (n := s) hi.2.2.2.1 rn
        refine J.aload_n g dX3_fillSetsUpTo_33 rfl rfl ?_
        refine J.get g jX3 0 (by decide) lf_X3_9 0 rfl rfl dX3_fillSetsUpTo_34 ?_
        refine J.iload g dX3_fillSetsUpTo_37 rfl ?_
        refine J.aload_n g dX3_fillSetsUpTo_39 rfl rfl ?_
        refine J.aload_n g dX3_fillSetsUpTo_40 rfl rfl ?_
        refine J.iload g dX3_fillSetsUpTo_41 rfl ?_
        refine J.iload_n g dX3_fillSetsUpTo_43 rfl rfl ?_
        refine J.isubN g dX3_fillSetsUpTo_44 (by omega) ?_
        refine J.callV0 g (c_X3_madeBy l γ _ _ _ _ _ _ _ _ _ _ _ _ _ _ (by omega)) jy_X3_madeBy lm_X3_72 (q0 := 0) rfl jX3.1 ⟨⟨Nat.le_of_ble_eq_true rfl, Nat.le_of_ble_eq_true rfl⟩, Nat.le_of_ble_eq_true rfl, Nat.le_of_ble_eq_true rfl⟩ (Nat.le_of_ble_eq_true rfl) rfl [0, 1, 2, 3, 4, 5] rfl rfl dX3_fillSetsUpTo_45 ?_
        intro _ _
        dsimp only [jpush]
        refine J.iload g dX3_fillSetsUpTo_48 rfl ?_
        refine J.callV0 g (c_X0_plus l γ _ _ _ _ _ _ _ _ _ _ _ hT (by have := (hi.2.2.2.2 (s - 2 ^ p)).1; omega) (by have := hf p hp; omega)) jy_X0_plus lm_X3_78 (q0 := 6) rfl jX0.1 ⟨⟨Nat.le_of_ble_eq_true rfl, Nat.le_of_ble_eq_true rfl⟩, Nat.le_of_ble_eq_true rfl, Nat.le_of_ble_eq_true rfl⟩ (Nat.le_of_ble_eq_true rfl) rfl [6, 7, 8] rfl rfl dX3_fillSetsUpTo_50 ?_
        intro _ _
        dsimp only [jpush]
        refine J.i2b g dX3_fillSetsUpTo_53 (j_i2b _ (by omega)) ?_
        refine J.bastN g 1 rfl (by omega) (by decide) (by omega) dX3_fillSetsUpTo_54 ?_
        try dsimp only [List.set_cons_zero, List.set_cons_succ]
        refine J.aload_n g dX3_fillSetsUpTo_55 rfl rfl ?_
        refine J.get g jX3 1 (by decide) lf_X3_15 0 rfl rfl dX3_fillSetsUpTo_56 ?_
        refine J.iload g dX3_fillSetsUpTo_59 rfl ?_
        refine J.aload_n g dX3_fillSetsUpTo_61 rfl rfl ?_
        refine J.get g jX3 0 (by decide) lf_X3_9 0 rfl rfl dX3_fillSetsUpTo_62 ?_
        refine J.iload g dX3_fillSetsUpTo_65 rfl ?_
        refine J.baldN g 1 rfl (by omega) (by decide) dX3_fillSetsUpTo_67 ?_
        refine J.if_neN g dX3_fillSetsUpTo_68 (tgt := 84) (by decide) (by rw [up_at]; omega) (fun c_68 => ?_) (fun c_68 => ?_)
        · have hnx := jFS_2 hp hs.1 (by omega) hT hi (by rw [up_at] at c_68; exact c_68)
          refine J.aload_n g dX3_fillSetsUpTo_84 rfl rfl ?_
          refine J.iload g dX3_fillSetsUpTo_85 rfl ?_
          refine J.callV0 g (c_X3_mostWithoutOne l γ _ _ _ _ _ _ _ _ _ _ _ _ _ _ (by omega) hn (fun t => ⟨by unfold va_up; split <;> (first | omega | exact (hi.2.2.2.2 t).1), (hi.2.2.2.2 t).2⟩)) jy_X3_mostWithoutOne lm_X3_81 (q0 := 0) rfl jX3.1 ⟨⟨Nat.le_of_ble_eq_true rfl, Nat.le_of_ble_eq_true rfl⟩, Nat.le_of_ble_eq_true rfl, Nat.le_of_ble_eq_true rfl⟩ (Nat.le_of_ble_eq_true rfl) rfl [0, 1, 2, 3, 4, 5] rfl rfl dX3_fillSetsUpTo_87 ?_
          intro _ _
          dsimp only [jpush]
          refine J.i2b g dX3_fillSetsUpTo_90 (j_i2b _ (by omega)) ?_
          refine J.bastN g 2 rfl (by omega) (by decide) (by omega) dX3_fillSetsUpTo_91 ?_
          try dsimp only [List.set_cons_zero, List.set_cons_succ]
          refine J.iincN g 1 dX3_fillSetsUpTo_92 rfl rfl ?_
          try dsimp only [List.set_cons_zero, List.set_cons_succ]
          refine J.goto g dX3_fillSetsUpTo_95 (tgt := 17) (by decide) ?_
          exact J.lvle (jle_s (jle_s (jle_s (jle_s (jle_s (jle_s jle_0)))))) (ih_lp (s + 1) _ _ (by omega) (by omega) (fun t ht => by rw [up_ne (by omega)]; exact hkp t ht) hnx)
        · have hnx := jFS_1 hp hs.1 (by omega) hi (by rw [up_at] at c_68; exact c_68) hle2
          refine J.aload_n g dX3_fillSetsUpTo_71 rfl rfl ?_
          refine J.iload g dX3_fillSetsUpTo_72 rfl ?_
          refine J.iload_n g dX3_fillSetsUpTo_74 rfl rfl ?_
          refine J.isubN g dX3_fillSetsUpTo_75 (by omega) ?_
          refine J.callV0 g (c_X3_mostOf l γ _ _ _ _ _ _ _ _ _ _ _ _ _ _ (by omega)) jy_X3_mostOf lm_X3_35 (q0 := 0) rfl jX3.1 ⟨⟨Nat.le_of_ble_eq_true rfl, Nat.le_of_ble_eq_true rfl⟩, Nat.le_of_ble_eq_true rfl, Nat.le_of_ble_eq_true rfl⟩ (Nat.le_of_ble_eq_true rfl) rfl [0, 1, 2, 3, 4, 5] rfl rfl dX3_fillSetsUpTo_76 ?_
          intro _ _
          dsimp only [jpush]
          refine J.iconstN g 1 dX3_fillSetsUpTo_79 ?_
          refine J.iaddN g dX3_fillSetsUpTo_80 ?_
          refine J.goto g dX3_fillSetsUpTo_81 (tgt := 90) (by decide) ?_
          refine J.i2b g dX3_fillSetsUpTo_90 (j_i2b _ (by omega)) ?_
          refine J.bastN g 2 rfl (by omega) (by decide) (by omega) dX3_fillSetsUpTo_91 ?_
          try dsimp only [List.set_cons_zero, List.set_cons_succ]
          refine J.iincN g 1 dX3_fillSetsUpTo_92 rfl rfl ?_
          try dsimp only [List.set_cons_zero, List.set_cons_succ]
          refine J.goto g dX3_fillSetsUpTo_95 (tgt := 17) (by decide) ?_
          exact J.lvle (jle_s (jle_s (jle_s (jle_s (jle_s (jle_s jle_0)))))) (ih_lp (s + 1) _ _ (by omega) (by omega) (fun t ht => by rw [up_ne (by omega)]; exact hkp t ht) hnx)
  exact J.lvle (jle_s (jle_s (jle_s (jle_s (jle_s (jle_s jle_0)))))) (lp _ (2 ^ p) m0 m1 (Nat.lt_succ_self _) (by omega) (fun t ht => rfl) ⟨h0, h1, h2, fun s hs => by have := h3 s hs; omega, hb⟩)
set_option maxHeartbeats 4000000 in
set_option maxRecDepth 100000 in
theorem c_X3_leastAtomOfMost (l : Launch) (γ : jγ) (pp b0 b1 b2 ra re sgc wh rn : Nat) (m0 m1 m2 rf : Nat → Nat) (s : Nat) (hs : s < 4096) (hb : ∀ s, m0 s < 128 ∧ m1 s < 128) : jM (S := Unit) l γ yX3_leastAtomOfMost cX3_leastAtomOfMost 7 (some .int) ({ frames := 1, cells := 0, slots := 0, locals := 21 } : Room) [.ref pp, .int (nI s)] [(pp, .inr (3, [.ref b0, .ref b1, .ref b2, .ref ra, .int (nI sgc), .int (nI wh)])), (b0, .inl (γ.2 1, 4096, .inl (fun j => nI (m0 j)))), (b1, .inl (γ.2 1, 4096, .inl (fun j => nI (m1 j)))), (b2, .inl (γ.2 1, 4096, .inl (fun j => nI (m2 j)))), (ra, .inr (6, [.ref re, .int (nI rn)])), (re, .inl (γ.2 0, 12, .inl (fun j => nI (rf j))))] (fun w0 => some (.int (nI (jlm m0 m1 s 4096 0)))) (fun w0 => [(pp, .inr (3, [.ref b0, .ref b1, .ref b2, .ref ra, .int (nI sgc), .int (nI wh)])), (b0, .inl (γ.2 1, 4096, .inl (fun j => nI (m0 j)))), (b1, .inl (γ.2 1, 4096, .inl (fun j => nI (m1 j)))), (b2, .inl (γ.2 1, 4096, .inl (fun j => nI (m2 j)))), (ra, .inr (6, [.ref re, .int (nI rn)])), (re, .inl (γ.2 0, 12, .inl (fun j => nI (rf j))))]) (fun w0 => True) := by
  refine jM.of [some (.ref pp), some (.int (nI s)), none, none, none, none, none] rfl (Nat.le_of_ble_eq_true rfl) (by decide) ?_
  intro x g hE hin
  refine J.iload_n g dX3_leastAtomOfMost_0 rfl rfl ?_
  refine J.iload_n g dX3_leastAtomOfMost_1 rfl rfl ?_
  refine J.ineg g dX3_leastAtomOfMost_2 ?_
  refine J.iand' g dX3_leastAtomOfMost_3 (j_low (by omega)) ?_
  refine J.istore_n g dX3_leastAtomOfMost_4 rfl rfl rfl ?_
  try dsimp only [List.set_cons_zero, List.set_cons_succ]
  refine J.iload_n g dX3_leastAtomOfMost_5 rfl rfl ?_
  refine J.iload_n g dX3_leastAtomOfMost_6 rfl rfl ?_
  refine J.ixor' g dX3_leastAtomOfMost_7 (j_xor _ _) ?_
  refine J.istore_n g dX3_leastAtomOfMost_8 rfl rfl rfl ?_
  try dsimp only [List.set_cons_zero, List.set_cons_succ]
  refine J.iconstN g 0 dX3_leastAtomOfMost_9 ?_
  refine J.istore g dX3_leastAtomOfMost_10 rfl rfl ?_
  try dsimp only [List.set_cons_zero, List.set_cons_succ]
  refine J.iconstN g 0 dX3_leastAtomOfMost_12 ?_
  refine J.istore g dX3_leastAtomOfMost_13 rfl rfl ?_
  try dsimp only [List.set_cons_zero, List.set_cons_succ]
  have lp : ∀ (d : Nat) (i r : Nat), 4096 - i < d → (i ≤ 4096) → (r < 4096) → (jlm m0 m1 s 4096 0 = jlm m0 m1 s (4096 - i) r) → J γ l x [(pp, .inr (3, [.ref b0, .ref b1, .ref b2, .ref ra, .int (nI sgc), .int (nI wh)])), (b0, .inl (γ.2 1, 4096, .inl (fun j => nI (m0 j)))), (b1, .inl (γ.2 1, 4096, .inl (fun j => nI (m1 j)))), (b2, .inl (γ.2 1, 4096, .inl (fun j => nI (m2 j)))), (ra, .inr (6, [.ref re, .int (nI rn)])), (re, .inl (γ.2 0, 12, .inl (fun j => nI (rf j))))] [some (.ref pp), some (.int (nI s)), some (.int (nI (jlow s))), some (.int (nI (s ^^^ jlow s))), some (.int (nI r)), some (.int (nI i)), none] [] 0 0 15 := by
    intro d
    induction d with
    | zero => intro i r hm; exact absurd hm (Nat.not_lt_zero _)
    | succ d ih_lp =>
      intro i r hm hi hrr hr
      refine J.iload g dX3_leastAtomOfMost_15 rfl ?_
      refine J.sipush (v := nI 4096) g dX3_leastAtomOfMost_17 (by decide +kernel) ?_
      refine J.icmp_geN g dX3_leastAtomOfMost_20 (tgt := 81) (by decide) (by omega) (by omega) (fun c_20 => ?_) (fun c_20 => ?_)
      · refine J.iload_n g dX3_leastAtomOfMost_81 rfl rfl ?_
        exact J.iret g hE () (by rw [hr, show 4096 - i = 0 by omega]; rfl) trivial rfl ⟨Nat.le_of_ble_eq_true rfl, Nat.le_of_ble_eq_true rfl⟩ dX3_leastAtomOfMost_82
      · refine J.iload g dX3_leastAtomOfMost_23 rfl ?_
        refine J.iload_n g dX3_leastAtomOfMost_25 rfl rfl ?_
        refine J.ior' g dX3_leastAtomOfMost_26 (j_or _ _) ?_
        refine J.istore g dX3_leastAtomOfMost_27 rfl rfl ?_
        try dsimp only [List.set_cons_zero, List.set_cons_succ]
        refine J.aload_n g dX3_leastAtomOfMost_29 rfl rfl ?_
        refine J.iload g dX3_leastAtomOfMost_30 rfl ?_
        refine J.callV0 g (c_X3_madeBy l γ _ _ _ _ _ _ _ _ _ _ _ _ _ _ (jo_lt hrr (jlow_lt hs))) jy_X3_madeBy lm_X3_72 (q0 := 0) rfl jX3.1 ⟨⟨Nat.le_of_ble_eq_true rfl, Nat.le_of_ble_eq_true rfl⟩, Nat.le_of_ble_eq_true rfl, Nat.le_of_ble_eq_true rfl⟩ (Nat.le_of_ble_eq_true rfl) rfl [0, 1, 2, 3, 4, 5] rfl rfl dX3_leastAtomOfMost_32 ?_
        intro _ _
        dsimp only [jpush]
        refine J.if_neN g dX3_leastAtomOfMost_35 (tgt := 59) (by decide) (by have := (hb (r ||| jlow s)).1; omega) (fun c_35 => ?_) (fun c_35 => ?_)
        · have hno : ¬ (m0 (r ||| jlow s) = 0 ∧ m1 (s ^^^ (r ||| jlow s)) + 1 = m1 s) := fun z => c_35 z.1
          refine J.iload g dX3_leastAtomOfMost_59 rfl ?_
          refine J.iload_n g dX3_leastAtomOfMost_61 rfl rfl ?_
          refine J.icmp_neN g dX3_leastAtomOfMost_62 (tgt := 67) (by decide) (by omega) (by have := jot_lt hs; omega) (fun c_62 => ?_) (fun c_62 => ?_)
          · have hr2 := hr.trans (jlm_n (by omega) hno c_62)
            refine J.iload g dX3_leastAtomOfMost_67 rfl ?_
            refine J.iload_n g dX3_leastAtomOfMost_69 rfl rfl ?_
            refine J.callS0 g (c_X3_nextSet l γ _ _ hrr (jot_lt hs)) jy_X3_nextSet lm_X3_98 ⟨⟨Nat.le_of_ble_eq_true rfl, Nat.le_of_ble_eq_true rfl⟩, Nat.le_of_ble_eq_true rfl, Nat.le_of_ble_eq_true rfl⟩ (Nat.le_of_ble_eq_true rfl) rfl [] rfl rfl dX3_leastAtomOfMost_70 ?_
            intro _ _
            dsimp only [jpush]
            refine J.istore g dX3_leastAtomOfMost_73 rfl rfl ?_
            try dsimp only [List.set_cons_zero, List.set_cons_succ]
            refine J.iincN g 1 dX3_leastAtomOfMost_75 rfl rfl ?_
            try dsimp only [List.set_cons_zero, List.set_cons_succ]
            refine J.goto g dX3_leastAtomOfMost_78 (tgt := 15) (by decide) ?_
            exact J.lvle (jle_s (jle_s (jle_s (jle_s (jle_s (jle_s (jle_n jle_0))))))) (ih_lp (i + 1) (jnx r (s ^^^ jlow s)) (by omega) (by omega) (jnx_lt (jot_lt hs)) hr2)
          · have hr3 := hr.trans (jlm_e (by omega) hno c_62)
            refine J.iload_n g dX3_leastAtomOfMost_65 rfl rfl ?_
            exact J.iret g hE () (by rw [hr3]) trivial rfl ⟨Nat.le_of_ble_eq_true rfl, Nat.le_of_ble_eq_true rfl⟩ dX3_leastAtomOfMost_66
        · refine J.aload_n g dX3_leastAtomOfMost_38 rfl rfl ?_
          refine J.iload_n g dX3_leastAtomOfMost_39 rfl rfl ?_
          refine J.iload g dX3_leastAtomOfMost_40 rfl ?_
          refine J.ixor' g dX3_leastAtomOfMost_42 (j_xor _ _) ?_
          refine J.callV0 g (c_X3_mostOf l γ _ _ _ _ _ _ _ _ _ _ _ _ _ _ (jx2_lt hs hrr (jlow_lt hs))) jy_X3_mostOf lm_X3_35 (q0 := 0) rfl jX3.1 ⟨⟨Nat.le_of_ble_eq_true rfl, Nat.le_of_ble_eq_true rfl⟩, Nat.le_of_ble_eq_true rfl, Nat.le_of_ble_eq_true rfl⟩ (Nat.le_of_ble_eq_true rfl) rfl [0, 1, 2, 3, 4, 5] rfl rfl dX3_leastAtomOfMost_43 ?_
          intro _ _
          dsimp only [jpush]
          refine J.iconstN g 1 dX3_leastAtomOfMost_46 ?_
          refine J.iaddN g dX3_leastAtomOfMost_47 ?_
          refine J.aload_n g dX3_leastAtomOfMost_48 rfl rfl ?_
          refine J.iload_n g dX3_leastAtomOfMost_49 rfl rfl ?_
          refine J.callV0 g (c_X3_mostOf l γ _ _ _ _ _ _ _ _ _ _ _ _ _ _ hs) jy_X3_mostOf lm_X3_35 (q0 := 0) rfl jX3.1 ⟨⟨Nat.le_of_ble_eq_true rfl, Nat.le_of_ble_eq_true rfl⟩, Nat.le_of_ble_eq_true rfl, Nat.le_of_ble_eq_true rfl⟩ (Nat.le_of_ble_eq_true rfl) rfl [0, 1, 2, 3, 4, 5] rfl rfl dX3_leastAtomOfMost_50 ?_
          intro _ _
          dsimp only [jpush]
          refine J.icmp_neN g dX3_leastAtomOfMost_53 (tgt := 59) (by decide) (by have := (hb (s ^^^ (r ||| jlow s))).2; omega) (by have := (hb s).2; omega) (fun c_53 => ?_) (fun c_53 => ?_)
          · have hno : ¬ (m0 (r ||| jlow s) = 0 ∧ m1 (s ^^^ (r ||| jlow s)) + 1 = m1 s) := fun z => c_53 z.2
            refine J.iload g dX3_leastAtomOfMost_59 rfl ?_
            refine J.iload_n g dX3_leastAtomOfMost_61 rfl rfl ?_
            refine J.icmp_neN g dX3_leastAtomOfMost_62 (tgt := 67) (by decide) (by omega) (by have := jot_lt hs; omega) (fun c_62 => ?_) (fun c_62 => ?_)
            · have hr2 := hr.trans (jlm_n (by omega) hno c_62)
              refine J.iload g dX3_leastAtomOfMost_67 rfl ?_
              refine J.iload_n g dX3_leastAtomOfMost_69 rfl rfl ?_
              refine J.callS0 g (c_X3_nextSet l γ _ _ hrr (jot_lt hs)) jy_X3_nextSet lm_X3_98 ⟨⟨Nat.le_of_ble_eq_true rfl, Nat.le_of_ble_eq_true rfl⟩, Nat.le_of_ble_eq_true rfl, Nat.le_of_ble_eq_true rfl⟩ (Nat.le_of_ble_eq_true rfl) rfl [] rfl rfl dX3_leastAtomOfMost_70 ?_
              intro _ _
              dsimp only [jpush]
              refine J.istore g dX3_leastAtomOfMost_73 rfl rfl ?_
              try dsimp only [List.set_cons_zero, List.set_cons_succ]
              refine J.iincN g 1 dX3_leastAtomOfMost_75 rfl rfl ?_
              try dsimp only [List.set_cons_zero, List.set_cons_succ]
              refine J.goto g dX3_leastAtomOfMost_78 (tgt := 15) (by decide) ?_
              exact J.lvle (jle_s (jle_s (jle_s (jle_s (jle_s (jle_s (jle_n jle_0))))))) (ih_lp (i + 1) (jnx r (s ^^^ jlow s)) (by omega) (by omega) (jnx_lt (jot_lt hs)) hr2)
            · have hr3 := hr.trans (jlm_e (by omega) hno c_62)
              refine J.iload_n g dX3_leastAtomOfMost_65 rfl rfl ?_
              exact J.iret g hE () (by rw [hr3]) trivial rfl ⟨Nat.le_of_ble_eq_true rfl, Nat.le_of_ble_eq_true rfl⟩ dX3_leastAtomOfMost_66
          · refine J.iload g dX3_leastAtomOfMost_56 rfl ?_
            exact J.iret g hE () (by rw [hr, jlm_f (by omega) c_35 c_53]) trivial rfl ⟨Nat.le_of_ble_eq_true rfl, Nat.le_of_ble_eq_true rfl⟩ dX3_leastAtomOfMost_58
  exact J.lvle (jle_s (jle_s (jle_s (jle_s (jle_s (jle_s (jle_n jle_0))))))) (lp _ 0 0 (Nat.lt_succ_self _) (by omega) (by omega) rfl)
set_option maxHeartbeats 4000000 in
set_option maxRecDepth 100000 in
theorem c_X3_atomOfMost (l : Launch) (γ : jγ) (pp b0 b1 b2 ra re sgc wh rn : Nat) (m0 m1 m2 rf : Nat → Nat) (i : Nat) (hw : wh < 4096) (hi : i < 2 ^ 30) (hb : ∀ s, m0 s < 128 ∧ m1 s < 128) : jM (S := Unit) l γ yX3_atomOfMost cX3_atomOfMost 5 (some .int) ({ frames := 2, cells := 0, slots := 0, locals := 47 } : Room) [.ref pp, .int (nI i)] [(pp, .inr (3, [.ref b0, .ref b1, .ref b2, .ref ra, .int (nI sgc), .int (nI wh)])), (b0, .inl (γ.2 1, 4096, .inl (fun j => nI (m0 j)))), (b1, .inl (γ.2 1, 4096, .inl (fun j => nI (m1 j)))), (b2, .inl (γ.2 1, 4096, .inl (fun j => nI (m2 j)))), (ra, .inr (6, [.ref re, .int (nI rn)])), (re, .inl (γ.2 0, 12, .inl (fun j => nI (rf j))))] (fun w0 => some (.int (jam m0 m1 wh i))) (fun w0 => [(pp, .inr (3, [.ref b0, .ref b1, .ref b2, .ref ra, .int (nI sgc), .int (nI wh)])), (b0, .inl (γ.2 1, 4096, .inl (fun j => nI (m0 j)))), (b1, .inl (γ.2 1, 4096, .inl (fun j => nI (m1 j)))), (b2, .inl (γ.2 1, 4096, .inl (fun j => nI (m2 j)))), (ra, .inr (6, [.ref re, .int (nI rn)])), (re, .inl (γ.2 0, 12, .inl (fun j => nI (rf j))))]) (fun w0 => True) := by
  refine jM.of [some (.ref pp), some (.int (nI i)), none, none, none] rfl (Nat.le_of_ble_eq_true rfl) (by decide) ?_
  intro x g hE hin
  refine J.aload_n g dX3_atomOfMost_0 rfl rfl ?_
  refine J.get g jX3 5 (by decide) lf_X3_32 0 rfl rfl dX3_atomOfMost_1 ?_
  refine J.istore_n g dX3_atomOfMost_4 rfl rfl rfl ?_
  try dsimp only [List.set_cons_zero, List.set_cons_succ]
  refine J.iconst (v := -1) g dX3_atomOfMost_5 (by decide) ?_
  refine J.istore_n g dX3_atomOfMost_6 rfl rfl rfl ?_
  try dsimp only [List.set_cons_zero, List.set_cons_succ]
  refine J.iconstN g 0 dX3_atomOfMost_7 ?_
  refine J.istore g dX3_atomOfMost_8 rfl rfl ?_
  try dsimp only [List.set_cons_zero, List.set_cons_succ]
  have lp : ∀ (d : Nat) (k q : Nat) (v : Int32), i + 1 - k < d → (k ≤ i + 1) → (q < 4096) → (jam m0 m1 wh i = jam2 m0 m1 (i + 1 - k) q v) → J γ l x [(pp, .inr (3, [.ref b0, .ref b1, .ref b2, .ref ra, .int (nI sgc), .int (nI wh)])), (b0, .inl (γ.2 1, 4096, .inl (fun j => nI (m0 j)))), (b1, .inl (γ.2 1, 4096, .inl (fun j => nI (m1 j)))), (b2, .inl (γ.2 1, 4096, .inl (fun j => nI (m2 j)))), (ra, .inr (6, [.ref re, .int (nI rn)])), (re, .inl (γ.2 0, 12, .inl (fun j => nI (rf j))))] [some (.ref pp), some (.int (nI i)), some (.int (nI q)), some (.int v), some (.int (nI k))] [] 0 0 10 := by
    intro d
    induction d with
    | zero => intro k q v hm; exact absurd hm (Nat.not_lt_zero _)
    | succ d ih_lp =>
      intro k q v hm hk hq hr
      refine J.iload g dX3_atomOfMost_10 rfl ?_
      refine J.iload_n g dX3_atomOfMost_12 rfl rfl ?_
      refine J.icmp_gtN g dX3_atomOfMost_13 (tgt := 36) (by decide) (by omega) (by omega) (fun c_13 => ?_) (fun c_13 => ?_)
      · refine J.iload_n g dX3_atomOfMost_36 rfl rfl ?_
        exact J.iret g hE () (by first | rw [hr, jam_0 c_13] | rw [hr, c_17, jam_z]) trivial rfl ⟨Nat.le_of_ble_eq_true rfl, Nat.le_of_ble_eq_true rfl⟩ dX3_atomOfMost_37
      · refine J.iload_n g dX3_atomOfMost_16 rfl rfl ?_
        refine J.if_leN g dX3_atomOfMost_17 (tgt := 36) (by decide) (by omega) (fun c_17 => ?_) (fun c_17 => ?_)
        · refine J.iload_n g dX3_atomOfMost_36 rfl rfl ?_
          exact J.iret g hE () (by first | rw [hr, jam_0 c_13] | rw [hr, c_17, jam_z]) trivial rfl ⟨Nat.le_of_ble_eq_true rfl, Nat.le_of_ble_eq_true rfl⟩ dX3_atomOfMost_37
        · refine J.aload_n g dX3_atomOfMost_20 rfl rfl ?_
          refine J.iload_n g dX3_atomOfMost_21 rfl rfl ?_
          refine J.callV0 g (c_X3_leastAtomOfMost l γ _ _ _ _ _ _ _ _ _ _ _ _ _ _ hq hb) jy_X3_leastAtomOfMost lm_X3_101 (q0 := 0) rfl jX3.1 ⟨⟨Nat.le_of_ble_eq_true rfl, Nat.le_of_ble_eq_true rfl⟩, Nat.le_of_ble_eq_true rfl, Nat.le_of_ble_eq_true rfl⟩ (Nat.le_of_ble_eq_true rfl) rfl [0, 1, 2, 3, 4, 5] rfl rfl dX3_atomOfMost_22 ?_
          intro _ _
          dsimp only [jpush]
          refine J.istore_n g dX3_atomOfMost_25 rfl rfl rfl ?_
          try dsimp only [List.set_cons_zero, List.set_cons_succ]
          refine J.iload_n g dX3_atomOfMost_26 rfl rfl ?_
          refine J.iload_n g dX3_atomOfMost_27 rfl rfl ?_
          refine J.ixor' g dX3_atomOfMost_28 (j_xor _ _) ?_
          refine J.istore_n g dX3_atomOfMost_29 rfl rfl rfl ?_
          try dsimp only [List.set_cons_zero, List.set_cons_succ]
          refine J.iincN g 1 dX3_atomOfMost_30 rfl rfl ?_
          try dsimp only [List.set_cons_zero, List.set_cons_succ]
          refine J.goto g dX3_atomOfMost_33 (tgt := 10) (by decide) ?_
          exact J.lvle (jle_s (jle_s (jle_s (jle_s (jle_s jle_0))))) (ih_lp (k + 1) (q ^^^ jlm m0 m1 q 4096 0) (nI (jlm m0 m1 q 4096 0)) (by omega) (by omega) (jxx_lt hq (jlm_lt hq 4096 0 (by omega))) (hr.trans (jam_n (by omega) (by omega))))
  exact J.lvle (jle_s (jle_s (jle_s (jle_s (jle_s jle_0))))) (lp _ 0 wh (-1) (Nat.lt_succ_self _) (by omega) hw rfl)
set_option maxHeartbeats 4000000 in
set_option maxRecDepth 100000 in
theorem c_X3_study (l : Launch) (γ : jγ) (pp b0 b1 b2 ra re sgc wh rn : Nat) (m0 m1 m2 rf : Nat → Nat) (gr mk ag cd pt od ex : Nat) (mf af : Nat → Nat) (a e n : Nat) (f : Nat → Nat) (hn : 1 ≤ n ∧ n ≤ 12) (hf : ∀ j, j < n → f j < 24) (hG : gIs cd pt od ex mf af) (hsg : sgc < 2 ^ 15) (hP : jPB wh rn m0 m1 m2) (hPf : ∀ j, j < rn → rf j < 24) (hV : rn ≠ 0 → jPV sgc rn rf wh m0 m1 m2) : jM (S := (Nat → Nat) × (Nat → Nat) × (Nat → Nat) × (Nat → Nat)) l γ yX3_study cX3_study 4 none ({ frames := 4, cells := 0, slots := 0, locals := 89 } : Room) [.ref pp, .ref gr, .ref a] [(pp, .inr (3, [.ref b0, .ref b1, .ref b2, .ref ra, .int (nI sgc), .int (nI wh)])), (b0, .inl (γ.2 1, 4096, .inl (fun j => nI (m0 j)))), (b1, .inl (γ.2 1, 4096, .inl (fun j => nI (m1 j)))), (b2, .inl (γ.2 1, 4096, .inl (fun j => nI (m2 j)))), (ra, .inr (6, [.ref re, .int (nI rn)])), (re, .inl (γ.2 0, 12, .inl (fun j => nI (rf j)))), (gr, .inr (0, [.ref mk, .ref ag, .int (nI cd), .int (nI pt), .int (nI od), .int (nI ex)])), (mk, .inl (γ.2 1, 576, .inl (fun j => nI (mf j)))), (ag, .inl (γ.2 1, 24, .inl (fun j => nI (af j)))), (a, .inr (6, [.ref e, .int (nI n)])), (e, .inl (γ.2 0, 12, .inl (fun j => nI (f j))))] (fun u => none) (fun u => [(pp, .inr (3, [.ref b0, .ref b1, .ref b2, .ref ra, .int (nI cd), .int (nI (2 ^ n - 1))])), (b0, .inl (γ.2 1, 4096, .inl (fun j => nI (u.2.1 j)))), (b1, .inl (γ.2 1, 4096, .inl (fun j => nI (u.2.2.1 j)))), (b2, .inl (γ.2 1, 4096, .inl (fun j => nI (u.2.2.2 j)))), (ra, .inr (6, [.ref re, .int (nI n)])), (re, .inl (γ.2 0, 12, .inl (fun j => nI (u.1 j)))), (gr, .inr (0, [.ref mk, .ref ag, .int (nI cd), .int (nI pt), .int (nI od), .int (nI ex)])), (mk, .inl (γ.2 1, 576, .inl (fun j => nI (mf j)))), (ag, .inl (γ.2 1, 24, .inl (fun j => nI (af j)))), (a, .inr (6, [.ref e, .int (nI n)])), (e, .inl (γ.2 0, 12, .inl (fun j => nI (f j))))]) (fun u => (∀ k, k < n → u.1 k = f k) ∧ jPB (2 ^ n - 1) n u.2.1 u.2.2.1 u.2.2.2 ∧ jPV cd n u.1 (2 ^ n - 1) u.2.1 u.2.2.1 u.2.2.2) := by
  refine jM.of [some (.ref pp), some (.ref gr), some (.ref a), none] rfl (Nat.le_of_ble_eq_true rfl) (by decide) ?_
  intro x g hE hin
  have hT := hG.tab
  have hcd := (g_small cd hG.1).1
  refine J.aload_n g dX3_study_0 rfl rfl ?_
  refine J.callV0 g (c_X0_code l γ _ _ _ _ _ _ _ _ _ ) jy_X0_code lm_X3_39 (q0 := 6) rfl jX0.1 ⟨⟨Nat.le_of_ble_eq_true rfl, Nat.le_of_ble_eq_true rfl⟩, Nat.le_of_ble_eq_true rfl, Nat.le_of_ble_eq_true rfl⟩ (Nat.le_of_ble_eq_true rfl) rfl [6, 7, 8] rfl rfl dX3_study_1 ?_
  intro _ _
  dsimp only [jpush]
  refine J.aload_n g dX3_study_4 rfl rfl ?_
  refine J.get g jX3 4 (by decide) lf_X3_28 0 rfl rfl dX3_study_5 ?_
  refine J.icmp_neN g dX3_study_8 (tgt := 23) (by decide) (by omega) (by have := hsg; omega) (fun c_8 => ?_) (fun c_8 => ?_)
  · refine J.aload_n g dX3_study_23 rfl rfl ?_
    refine J.get g jX3 3 (by decide) lf_X3_24 0 rfl rfl dX3_study_24 ?_
    refine J.aload_n g dX3_study_27 rfl rfl ?_
    refine J.callV g (c_X6_copyFrom l γ _ _ _ _ _ _ _ _ hn.2) jy_X6_copyFrom lm_X3_49 (q0 := 4) rfl jX6.1 ⟨⟨Nat.le_of_ble_eq_true rfl, Nat.le_of_ble_eq_true rfl⟩, Nat.le_of_ble_eq_true rfl, Nat.le_of_ble_eq_true rfl⟩ (Nat.le_of_ble_eq_true rfl) rfl [4, 5, 9, 10] rfl (fun _ => rfl) rfl dX3_study_28 ?_
    intro u_28 h_28
    dsimp only [jput, List.set_cons_zero, List.set_cons_succ, Option.toList, List.append, List.cons_append, List.nil_append, List.append_nil]
    refine J.aload_n g dX3_study_31 rfl rfl ?_
    refine J.aload_n g dX3_study_32 rfl rfl ?_
    refine J.callV0 g (c_X0_code l γ _ _ _ _ _ _ _ _ _ ) jy_X0_code lm_X3_39 (q0 := 6) rfl jX0.1 ⟨⟨Nat.le_of_ble_eq_true rfl, Nat.le_of_ble_eq_true rfl⟩, Nat.le_of_ble_eq_true rfl, Nat.le_of_ble_eq_true rfl⟩ (Nat.le_of_ble_eq_true rfl) rfl [6, 7, 8] rfl rfl dX3_study_33 ?_
    intro _ _
    dsimp only [jpush]
    refine J.put g jX3 4 (by decide) lf_X3_28 0 rfl rfl (Nat.le_of_ble_eq_true rfl) rfl rfl dX3_study_36 ?_
    try dsimp only [List.set_cons_zero, List.set_cons_succ]
    refine J.aload_n g dX3_study_39 rfl rfl ?_
    refine J.aload_n g dX3_study_40 rfl rfl ?_
    refine J.callV0 g (c_X6_wholeSet l γ _ _ _ _ hn.2) jy_X6_wholeSet lm_X3_53 (q0 := 9) rfl jX6.1 ⟨⟨Nat.le_of_ble_eq_true rfl, Nat.le_of_ble_eq_true rfl⟩, Nat.le_of_ble_eq_true rfl, Nat.le_of_ble_eq_true rfl⟩ (Nat.le_of_ble_eq_true rfl) rfl [9, 10] rfl rfl dX3_study_41 ?_
    intro _ _
    dsimp only [jpush]
    refine J.sipush (v := nI 4095) g dX3_study_44 (by decide +kernel) ?_
    refine J.mmin g lm_X3_56 jm_min_s jm_i jm_min_c ⟨Nat.le_of_ble_eq_true rfl, Nat.le_of_ble_eq_true rfl, Nat.le_of_ble_eq_true rfl, Nat.le_of_ble_eq_true rfl⟩ (if_neg (fun q => by have := jpn_lt hn.2; have := (nI_ltI (by omega) (by omega)).mp q; omega)) dX3_study_47 ?_
    refine J.put g jX3 5 (by decide) lf_X3_32 0 rfl rfl (Nat.le_of_ble_eq_true rfl) rfl rfl dX3_study_50 ?_
    try dsimp only [List.set_cons_zero, List.set_cons_succ]
    refine J.iconstN g 0 dX3_study_53 ?_
    refine J.istore_n g dX3_study_54 rfl rfl rfl ?_
    try dsimp only [List.set_cons_zero, List.set_cons_succ]
    have lp : ∀ (d : Nat) (i : Nat) (v0 v1 : Nat → Nat), n - i < d → (i ≤ n) → (jFS od mf u_28 n v0 v1 (2 ^ i) i) → J γ l x [(pp, .inr (3, [.ref b0, .ref b1, .ref b2, .ref ra, .int (nI cd), .int (nI (2 ^ n - 1))])), (b0, .inl (γ.2 1, 4096, .inl (fun j => nI (v0 j)))), (b1, .inl (γ.2 1, 4096, .inl (fun j => nI (v1 j)))), (b2, .inl (γ.2 1, 4096, .inl (fun j => nI (m2 j)))), (ra, .inr (6, [.ref re, .int (nI n)])), (re, .inl (γ.2 0, 12, .inl (fun j => nI (u_28 j)))), (gr, .inr (0, [.ref mk, .ref ag, .int (nI cd), .int (nI pt), .int (nI od), .int (nI ex)])), (mk, .inl (γ.2 1, 576, .inl (fun j => nI (mf j)))), (ag, .inl (γ.2 1, 24, .inl (fun j => nI (af j)))), (a, .inr (6, [.ref e, .int (nI n)])), (e, .inl (γ.2 0, 12, .inl (fun j => nI (f j))))] [some (.ref pp), some (.ref gr), some (.ref a), some (.int (nI i))] [] 0 0 55 := by
      intro d
      induction d with
      | zero => intro i v0 v1 hm; exact absurd hm (Nat.not_lt_zero _)
      | succ d ih_lp =>
        intro i v0 v1 hm hi2 hi
        refine J.iload_n g dX3_study_55 rfl rfl ?_
        refine J.aload_n g dX3_study_56 rfl rfl ?_
        refine J.callV0 g (c_X6_length l γ _ _ _ _ ) jy_X6_length lm_X3_62 (q0 := 9) rfl jX6.1 ⟨⟨Nat.le_of_ble_eq_true rfl, Nat.le_of_ble_eq_true rfl⟩, Nat.le_of_ble_eq_true rfl, Nat.le_of_ble_eq_true rfl⟩ (Nat.le_of_ble_eq_true rfl) rfl [9, 10] rfl rfl dX3_study_57 ?_
        intro _ _
        dsimp only [jpush]
        refine J.icmp_geN g dX3_study_60 (tgt := 81) (by decide) (by omega) (by omega) (fun c_60 => ?_) (fun c_60 => ?_)
        · refine J.aload_n g dX3_study_81 rfl rfl ?_
          refine J.callV g (c_X3_fillTaken l γ _ _ _ _ _ _ _ _ _ _ _ _ _ (by have := jpn_lt hn.2; omega) hn.2 (fun j hj => by rw [h_28 j hj]; exact hf j hj) hi.2.2.2.2 hP.2.2.2.2) jy_X3_fillTaken lm_X3_69 (q0 := 0) rfl jX3.1 ⟨⟨Nat.le_of_ble_eq_true rfl, Nat.le_of_ble_eq_true rfl⟩, Nat.le_of_ble_eq_true rfl, Nat.le_of_ble_eq_true rfl⟩ (Nat.le_of_ble_eq_true rfl) rfl [0, 1, 2, 3, 4, 5] rfl (fun _ => rfl) rfl dX3_study_82 ?_
          intro _ _
          dsimp only [jput, List.set_cons_zero, List.set_cons_succ, Option.toList, List.append, List.cons_append, List.nil_append, List.append_nil]
          exact J.vret g hE (u_28, v0, v1, _) rfl (jPV_of hG hn.2 h_28 hP (by obtain rfl : i = n := (by omega); exact hi)) rfl ⟨Nat.le_of_ble_eq_true rfl, Nat.le_of_ble_eq_true rfl⟩ dX3_study_85
        · refine J.iload_n g dX3_study_63 rfl rfl ?_
          refine J.bipush (v := nI 12) g dX3_study_64 (by decide +kernel) ?_
          refine J.icmp_geN g dX3_study_66 (tgt := 81) (by decide) (by omega) (by omega) (fun c_66 => absurd c_66 (by omega)) (fun c_66 => ?_)
          refine J.aload_n g dX3_study_69 rfl rfl ?_
          refine J.aload_n g dX3_study_70 rfl rfl ?_
          refine J.iload_n g dX3_study_71 rfl rfl ?_
          refine J.callV g (c_X3_fillSetsUpTo l γ _ _ _ _ _ _ _ _ _ _ _ _ _ _ _ _ _ _ _ _ _ _ _ (by omega) hn.2 (fun j hj => by rw [h_28 j hj]; exact hf j hj) hT hi.2.2.2.2 hi.1 hi.2.1 hi.2.2.1 hi.2.2.2.1) jy_X3_fillSetsUpTo lm_X3_65 (q0 := 0) rfl jX3.1 ⟨⟨Nat.le_of_ble_eq_true rfl, Nat.le_of_ble_eq_true rfl⟩, Nat.le_of_ble_eq_true rfl, Nat.le_of_ble_eq_true rfl⟩ (Nat.le_of_ble_eq_true rfl) rfl [0, 1, 2, 3, 4, 5, 6, 7, 8] rfl (fun _ => rfl) rfl dX3_study_72 ?_
          intro u_72 h_72
          dsimp only [jput, List.set_cons_zero, List.set_cons_succ, Option.toList, List.append, List.cons_append, List.nil_append, List.append_nil]
          refine J.iincN g 1 dX3_study_75 rfl rfl ?_
          try dsimp only [List.set_cons_zero, List.set_cons_succ]
          refine J.goto g dX3_study_78 (tgt := 55) (by decide) ?_
          exact J.lvle (jle_s (jle_s (jle_s (jle_s jle_0)))) (ih_lp (i + 1) u_72.1 u_72.2 (by omega) (by omega) h_72)
    exact J.lvle (jle_s (jle_s (jle_s (jle_s jle_0)))) (lp _ 0 m0 m1 (Nat.lt_succ_self _) (Nat.zero_le _) (jFS_0 (wh := wh) (rn := rn) (m2 := m2) ⟨hP.2.2.1, hP.2.2.2.1⟩))
  · refine J.aload_n g dX3_study_11 rfl rfl ?_
    refine J.get g jX3 3 (by decide) lf_X3_24 0 rfl rfl dX3_study_12 ?_
    refine J.aload_n g dX3_study_15 rfl rfl ?_
    refine J.callV0 g (c_X6_isSameAs l γ _ _ _ _ _ _ _ _ hP.2.1 hn.2 hPf hf) jy_X6_isSameAs lm_X3_45 (q0 := 4) rfl jX6.1 ⟨⟨Nat.le_of_ble_eq_true rfl, Nat.le_of_ble_eq_true rfl⟩, Nat.le_of_ble_eq_true rfl, Nat.le_of_ble_eq_true rfl⟩ (Nat.le_of_ble_eq_true rfl) rfl [4, 5, 9, 10] rfl rfl dX3_study_16 ?_
    intro _ _
    dsimp only [jpush]
    refine J.if_eqB g dX3_study_19 (tgt := 23) (by decide) (fun c_19 => ?_) (fun c_19 => ?_)
    · refine J.aload_n g dX3_study_23 rfl rfl ?_
      refine J.get g jX3 3 (by decide) lf_X3_24 0 rfl rfl dX3_study_24 ?_
      refine J.aload_n g dX3_study_27 rfl rfl ?_
      refine J.callV g (c_X6_copyFrom l γ _ _ _ _ _ _ _ _ hn.2) jy_X6_copyFrom lm_X3_49 (q0 := 4) rfl jX6.1 ⟨⟨Nat.le_of_ble_eq_true rfl, Nat.le_of_ble_eq_true rfl⟩, Nat.le_of_ble_eq_true rfl, Nat.le_of_ble_eq_true rfl⟩ (Nat.le_of_ble_eq_true rfl) rfl [4, 5, 9, 10] rfl (fun _ => rfl) rfl dX3_study_28 ?_
      intro u_28 h_28
      dsimp only [jput, List.set_cons_zero, List.set_cons_succ, Option.toList, List.append, List.cons_append, List.nil_append, List.append_nil]
      refine J.aload_n g dX3_study_31 rfl rfl ?_
      refine J.aload_n g dX3_study_32 rfl rfl ?_
      refine J.callV0 g (c_X0_code l γ _ _ _ _ _ _ _ _ _ ) jy_X0_code lm_X3_39 (q0 := 6) rfl jX0.1 ⟨⟨Nat.le_of_ble_eq_true rfl, Nat.le_of_ble_eq_true rfl⟩, Nat.le_of_ble_eq_true rfl, Nat.le_of_ble_eq_true rfl⟩ (Nat.le_of_ble_eq_true rfl) rfl [6, 7, 8] rfl rfl dX3_study_33 ?_
      intro _ _
      dsimp only [jpush]
      refine J.put g jX3 4 (by decide) lf_X3_28 0 rfl rfl (Nat.le_of_ble_eq_true rfl) rfl rfl dX3_study_36 ?_
      try dsimp only [List.set_cons_zero, List.set_cons_succ]
      refine J.aload_n g dX3_study_39 rfl rfl ?_
      refine J.aload_n g dX3_study_40 rfl rfl ?_
      refine J.callV0 g (c_X6_wholeSet l γ _ _ _ _ hn.2) jy_X6_wholeSet lm_X3_53 (q0 := 9) rfl jX6.1 ⟨⟨Nat.le_of_ble_eq_true rfl, Nat.le_of_ble_eq_true rfl⟩, Nat.le_of_ble_eq_true rfl, Nat.le_of_ble_eq_true rfl⟩ (Nat.le_of_ble_eq_true rfl) rfl [9, 10] rfl rfl dX3_study_41 ?_
      intro _ _
      dsimp only [jpush]
      refine J.sipush (v := nI 4095) g dX3_study_44 (by decide +kernel) ?_
      refine J.mmin g lm_X3_56 jm_min_s jm_i jm_min_c ⟨Nat.le_of_ble_eq_true rfl, Nat.le_of_ble_eq_true rfl, Nat.le_of_ble_eq_true rfl, Nat.le_of_ble_eq_true rfl⟩ (if_neg (fun q => by have := jpn_lt hn.2; have := (nI_ltI (by omega) (by omega)).mp q; omega)) dX3_study_47 ?_
      refine J.put g jX3 5 (by decide) lf_X3_32 0 rfl rfl (Nat.le_of_ble_eq_true rfl) rfl rfl dX3_study_50 ?_
      try dsimp only [List.set_cons_zero, List.set_cons_succ]
      refine J.iconstN g 0 dX3_study_53 ?_
      refine J.istore_n g dX3_study_54 rfl rfl rfl ?_
      try dsimp only [List.set_cons_zero, List.set_cons_succ]
      have lp : ∀ (d : Nat) (i : Nat) (v0 v1 : Nat → Nat), n - i < d → (i ≤ n) → (jFS od mf u_28 n v0 v1 (2 ^ i) i) → J γ l x [(pp, .inr (3, [.ref b0, .ref b1, .ref b2, .ref ra, .int (nI cd), .int (nI (2 ^ n - 1))])), (b0, .inl (γ.2 1, 4096, .inl (fun j => nI (v0 j)))), (b1, .inl (γ.2 1, 4096, .inl (fun j => nI (v1 j)))), (b2, .inl (γ.2 1, 4096, .inl (fun j => nI (m2 j)))), (ra, .inr (6, [.ref re, .int (nI n)])), (re, .inl (γ.2 0, 12, .inl (fun j => nI (u_28 j)))), (gr, .inr (0, [.ref mk, .ref ag, .int (nI cd), .int (nI pt), .int (nI od), .int (nI ex)])), (mk, .inl (γ.2 1, 576, .inl (fun j => nI (mf j)))), (ag, .inl (γ.2 1, 24, .inl (fun j => nI (af j)))), (a, .inr (6, [.ref e, .int (nI n)])), (e, .inl (γ.2 0, 12, .inl (fun j => nI (f j))))] [some (.ref pp), some (.ref gr), some (.ref a), some (.int (nI i))] [] 0 0 55 := by
        intro d
        induction d with
        | zero => intro i v0 v1 hm; exact absurd hm (Nat.not_lt_zero _)
        | succ d ih_lp =>
          intro i v0 v1 hm hi2 hi
          refine J.iload_n g dX3_study_55 rfl rfl ?_
          refine J.aload_n g dX3_study_56 rfl rfl ?_
          refine J.callV0 g (c_X6_length l γ _ _ _ _ ) jy_X6_length lm_X3_62 (q0 := 9) rfl jX6.1 ⟨⟨Nat.le_of_ble_eq_true rfl, Nat.le_of_ble_eq_true rfl⟩, Nat.le_of_ble_eq_true rfl, Nat.le_of_ble_eq_true rfl⟩ (Nat.le_of_ble_eq_true rfl) rfl [9, 10] rfl rfl dX3_study_57 ?_
          intro _ _
          dsimp only [jpush]
          refine J.icmp_geN g dX3_study_60 (tgt := 81) (by decide) (by omega) (by omega) (fun c_60 => ?_) (fun c_60 => ?_)
          · refine J.aload_n g dX3_study_81 rfl rfl ?_
            refine J.callV g (c_X3_fillTaken l γ _ _ _ _ _ _ _ _ _ _ _ _ _ (by have := jpn_lt hn.2; omega) hn.2 (fun j hj => by rw [h_28 j hj]; exact hf j hj) hi.2.2.2.2 hP.2.2.2.2) jy_X3_fillTaken lm_X3_69 (q0 := 0) rfl jX3.1 ⟨⟨Nat.le_of_ble_eq_true rfl, Nat.le_of_ble_eq_true rfl⟩, Nat.le_of_ble_eq_true rfl, Nat.le_of_ble_eq_true rfl⟩ (Nat.le_of_ble_eq_true rfl) rfl [0, 1, 2, 3, 4, 5] rfl (fun _ => rfl) rfl dX3_study_82 ?_
            intro _ _
            dsimp only [jput, List.set_cons_zero, List.set_cons_succ, Option.toList, List.append, List.cons_append, List.nil_append, List.append_nil]
            exact J.vret g hE (u_28, v0, v1, _) rfl (jPV_of hG hn.2 h_28 hP (by obtain rfl : i = n := (by omega); exact hi)) rfl ⟨Nat.le_of_ble_eq_true rfl, Nat.le_of_ble_eq_true rfl⟩ dX3_study_85
          · refine J.iload_n g dX3_study_63 rfl rfl ?_
            refine J.bipush (v := nI 12) g dX3_study_64 (by decide +kernel) ?_
            refine J.icmp_geN g dX3_study_66 (tgt := 81) (by decide) (by omega) (by omega) (fun c_66 => absurd c_66 (by omega)) (fun c_66 => ?_)
            refine J.aload_n g dX3_study_69 rfl rfl ?_
            refine J.aload_n g dX3_study_70 rfl rfl ?_
            refine J.iload_n g dX3_study_71 rfl rfl ?_
            refine J.callV g (c_X3_fillSetsUpTo l γ _ _ _ _ _ _ _ _ _ _ _ _ _ _ _ _ _ _ _ _ _ _ _ (by omega) hn.2 (fun j hj => by rw [h_28 j hj]; exact hf j hj) hT hi.2.2.2.2 hi.1 hi.2.1 hi.2.2.1 hi.2.2.2.1) jy_X3_fillSetsUpTo lm_X3_65 (q0 := 0) rfl jX3.1 ⟨⟨Nat.le_of_ble_eq_true rfl, Nat.le_of_ble_eq_true rfl⟩, Nat.le_of_ble_eq_true rfl, Nat.le_of_ble_eq_true rfl⟩ (Nat.le_of_ble_eq_true rfl) rfl [0, 1, 2, 3, 4, 5, 6, 7, 8] rfl (fun _ => rfl) rfl dX3_study_72 ?_
            intro u_72 h_72
            dsimp only [jput, List.set_cons_zero, List.set_cons_succ, Option.toList, List.append, List.cons_append, List.nil_append, List.append_nil]
            refine J.iincN g 1 dX3_study_75 rfl rfl ?_
            try dsimp only [List.set_cons_zero, List.set_cons_succ]
            refine J.goto g dX3_study_78 (tgt := 55) (by decide) ?_
            exact J.lvle (jle_s (jle_s (jle_s (jle_s jle_0)))) (ih_lp (i + 1) u_72.1 u_72.2 (by omega) (by omega) h_72)
      exact J.lvle (jle_s (jle_s (jle_s (jle_s jle_0)))) (lp _ 0 m0 m1 (Nat.lt_succ_self _) (Nat.zero_le _) (jFS_0 (wh := wh) (rn := rn) (m2 := m2) ⟨hP.2.2.1, hP.2.2.2.1⟩))
    · have hsm := jsame_t c_19
      have hwh : wh = 2 ^ n - 1 := by have := hV (by omega); rw [← hsm.1]; exact this.2.1
      exact J.vret g hE (rf, m0, m1, m2) rfl ⟨hsm.2, by rw [← hwh, ← hsm.1]; exact hP, by rw [← hwh, ← hsm.1, c_8]; exact hV (by omega)⟩ (by rw [hsm.1, c_8, hwh]) ⟨Nat.le_of_ble_eq_true rfl, Nat.le_of_ble_eq_true rfl⟩ dX3_study_22
