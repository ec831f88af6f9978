set_option maxHeartbeats 4000000 in
set_option maxRecDepth 100000 in
theorem c_X8_makes (l : Launch) (γ : jγ) (sr mq wq pn : Nat) (ad : Nat → Nat) (M : Nat → Nat → Nat) (i k gg : Nat) (hi : i ≤ 12) (hk : k ≤ 12) (hg : gg < 24) (hM : M i k < 2 ^ 24) : jM (S := Unit) l γ yX8_makes cX8_makes 4 (some .boolean) ({ frames := 1, cells := 0, slots := 0, locals := 21 } : Room) [.ref sr, .int (nI i), .int (nI k), .int (nI gg)] ([(sr, .inr (8, [.ref mq, .ref wq, .int (nI pn)])), (mq, .inl (γ.2 4, 13, .inr (.inr (.inr (.inr (fun i => some (ad i)))))))] ++ jrows γ ad 13 13 M) (fun w0 => some (.int (jB ((M i k).testBit gg)))) (fun w0 => ([(sr, .inr (8, [.ref mq, .ref wq, .int (nI pn)])), (mq, .inl (γ.2 4, 13, .inr (.inr (.inr (.inr (fun i => some (ad i)))))))] ++ jrows γ ad 13 13 M)) (fun w0 => True) := by
  refine jM.of [some (.ref sr), some (.int (nI i)), some (.int (nI k)), some (.int (nI gg))] rfl (Nat.le_of_ble_eq_true rfl) (by decide) ?_
  intro x g hE hin
  refine J.iload_n g dX8_makes_0 rfl rfl ?_
  refine J.if_ltN g dX8_makes_1 (tgt := 39) (by decide) (by omega) ?_
  refine J.iload_n g dX8_makes_4 rfl rfl ?_
  refine J.bipush (v := nI 12) g dX8_makes_5 (by decide +kernel) ?_
  refine J.icmp_gtN g dX8_makes_7 (tgt := 39) (by decide) (by omega) (by omega) (fun c_7 => absurd c_7 (by omega)) (fun c_7 => ?_)
  refine J.iload_n g dX8_makes_10 rfl rfl ?_
  refine J.if_ltN g dX8_makes_11 (tgt := 39) (by decide) (by omega) ?_
  refine J.iload_n g dX8_makes_14 rfl rfl ?_
  refine J.bipush (v := nI 12) g dX8_makes_15 (by decide +kernel) ?_
  refine J.icmp_gtN g dX8_makes_17 (tgt := 39) (by decide) (by omega) (by omega) (fun c_17 => absurd c_17 (by omega)) (fun c_17 => ?_)
  refine J.aload_n g dX8_makes_20 rfl rfl ?_
  refine J.get g jX8 0 (by decide) lf_X8_11 0 rfl rfl dX8_makes_21 ?_
  refine J.iload_n g dX8_makes_24 rfl rfl ?_
  refine J.qaldK (r := ad i) g 1 4 rfl rfl rfl (by omega) (by decide) rfl dX8_makes_25 ?_
  refine J.iload_n g dX8_makes_26 rfl rfl ?_
  refine J.ialdN (n := 13) g (2 + i) (jrows_get rfl (by omega)) (by omega) (by decide) dX8_makes_27 ?_
  refine J.iload_n g dX8_makes_28 rfl rfl ?_
  refine J.callS0 g (c_X0_isIn l γ _ _ (by omega) (by omega)) jy_X0_isIn lm_X8_39 ⟨⟨Nat.le_of_ble_eq_true rfl, Nat.le_of_ble_eq_true rfl⟩, Nat.le_of_ble_eq_true rfl, Nat.le_of_ble_eq_true rfl⟩ (Nat.le_of_ble_eq_true rfl) rfl [] rfl rfl dX8_makes_29 ?_
  intro _ _
  dsimp only [jpush]
  refine J.if_eqB g dX8_makes_32 (tgt := 39) (by decide) (fun c_32 => ?_) (fun c_32 => ?_)
  · refine J.iconstN g 0 dX8_makes_39 ?_
    exact J.zret (by first | rfl | exact j_nz _) g hE () (jB_f (by exact c_32)) trivial rfl ⟨Nat.le_of_ble_eq_true rfl, Nat.le_of_ble_eq_true rfl⟩ dX8_makes_40
  · refine J.iconstN g 1 dX8_makes_35 ?_
    refine J.goto g dX8_makes_36 (tgt := 40) (by decide) ?_
    exact J.zret (by first | rfl | exact j_nz _) g hE () (jB_t (by exact c_32)) trivial rfl ⟨Nat.le_of_ble_eq_true rfl, Nat.le_of_ble_eq_true rfl⟩ dX8_makes_40
set_option maxHeartbeats 4000000 in
set_option maxRecDepth 100000 in
theorem c_X8_canMake (l : Launch) (γ : jγ) (sr mq wq pn : Nat) (ad : Nat → Nat) (M : Nat → Nat → Nat) (gg k : Nat) (hp : pn ≤ 12) (hk : k ≤ 12) (hg : gg < 24) (hM : M pn k < 2 ^ 24) : jM (S := Unit) l γ yX8_canMake cX8_canMake 3 (some .boolean) ({ frames := 2, cells := 0, slots := 0, locals := 44 } : Room) [.ref sr, .int (nI gg), .int (nI k)] ([(sr, .inr (8, [.ref mq, .ref wq, .int (nI pn)])), (mq, .inl (γ.2 4, 13, .inr (.inr (.inr (.inr (fun i => some (ad i)))))))] ++ jrows γ ad 13 13 M) (fun w0 => some (.int (jB ((M pn k).testBit gg)))) (fun w0 => ([(sr, .inr (8, [.ref mq, .ref wq, .int (nI pn)])), (mq, .inl (γ.2 4, 13, .inr (.inr (.inr (.inr (fun i => some (ad i)))))))] ++ jrows γ ad 13 13 M)) (fun w0 => True) := by
  refine jM.of [some (.ref sr), some (.int (nI gg)), some (.int (nI k))] rfl (Nat.le_of_ble_eq_true rfl) (by decide) ?_
  intro x g hE hin
  refine J.aload_n g dX8_canMake_0 rfl rfl ?_
  refine J.aload_n g dX8_canMake_1 rfl rfl ?_
  refine J.get g jX8 2 (by decide) lf_X8_19 0 rfl rfl dX8_canMake_2 ?_
  refine J.iload_n g dX8_canMake_5 rfl rfl ?_
  refine J.iload_n g dX8_canMake_6 rfl rfl ?_
  refine J.callV0 g (c_X8_makes l γ _ _ _ _ _ _ _ _ _ hp hk hg hM) jy_X8_makes lm_X8_43 (q0 := 0) rfl jX8.1 ⟨⟨Nat.le_of_ble_eq_true rfl, Nat.le_of_ble_eq_true rfl⟩, Nat.le_of_ble_eq_true rfl, Nat.le_of_ble_eq_true rfl⟩ (Nat.le_of_ble_eq_true rfl) rfl [0, 1, 2, 3, 4, 5, 6, 7, 8, 9, 10, 11, 12, 13, 14] rfl rfl dX8_canMake_7 ?_
  intro _ _
  dsimp only [jpush]
  exact J.zret (by first | rfl | exact j_nz _) g hE () rfl trivial rfl ⟨Nat.le_of_ble_eq_true rfl, Nat.le_of_ble_eq_true rfl⟩ dX8_canMake_10
set_option maxHeartbeats 4000000 in
set_option maxRecDepth 100000 in
theorem c_X8_allSums (l : Launch) (γ : jγ) (sr mq wq pn : Nat) (ad : Nat → Nat) (M : Nat → Nat → Nat) (hp : pn ≤ 12) (hM : ∀ k, k ≤ 12 → M pn k < 2 ^ 24) : jM (S := Unit) l γ yX8_allSums cX8_allSums 3 (some .int) ({ frames := 0, cells := 0, slots := 0, locals := 0 } : Room) [.ref sr] ([(sr, .inr (8, [.ref mq, .ref wq, .int (nI pn)])), (mq, .inl (γ.2 4, 13, .inr (.inr (.inr (.inr (fun i => some (ad i)))))))] ++ jrows γ ad 13 13 M) (fun w0 => some (.int (nI (jors (M pn) pn)))) (fun w0 => ([(sr, .inr (8, [.ref mq, .ref wq, .int (nI pn)])), (mq, .inl (γ.2 4, 13, .inr (.inr (.inr (.inr (fun i => some (ad i)))))))] ++ jrows γ ad 13 13 M)) (fun w0 => True) := by
  refine jM.of [some (.ref sr), none, none] rfl (Nat.le_of_ble_eq_true rfl) (by decide) ?_
  intro x g hE hin
  refine J.iconstN g 0 dX8_allSums_0 ?_
  refine J.istore_n g dX8_allSums_1 rfl rfl rfl ?_
  try dsimp only [List.set_cons_zero, List.set_cons_succ]
  refine J.iconstN g 1 dX8_allSums_2 ?_
  refine J.istore_n g dX8_allSums_3 rfl rfl rfl ?_
  try dsimp only [List.set_cons_zero, List.set_cons_succ]
  have lp : ∀ (d : Nat) (k : Nat), pn + 1 - k < d → (1 ≤ k ∧ k ≤ pn + 1) → J γ l x ([(sr, .inr (8, [.ref mq, .ref wq, .int (nI pn)])), (mq, .inl (γ.2 4, 13, .inr (.inr (.inr (.inr (fun i => some (ad i)))))))] ++ jrows γ ad 13 13 M) [some (.ref sr), some (.int (nI (jors (M pn) (k - 1)))), some (.int (nI k))] [] 0 0 4 := by
    intro d
    induction d with
    | zero => intro k hm; exact absurd hm (Nat.not_lt_zero _)
    | succ d ih_lp =>
      intro k hm hi
      refine J.iload_n g dX8_allSums_4 rfl rfl ?_
      refine J.aload_n g dX8_allSums_5 rfl rfl ?_
      refine J.get g jX8 2 (by decide) lf_X8_19 0 rfl rfl dX8_allSums_6 ?_
      refine J.icmp_gtN g dX8_allSums_9 (tgt := 47) (by decide) (by omega) (by omega) (fun c_9 => ?_) (fun c_9 => ?_)
      · refine J.iload_n g dX8_allSums_47 rfl rfl ?_
        exact J.iret g hE () (by rw [show pn = k - 1 by omega]) trivial rfl ⟨Nat.le_of_ble_eq_true rfl, Nat.le_of_ble_eq_true rfl⟩ dX8_allSums_48
      · refine J.iload_n g dX8_allSums_12 rfl rfl ?_
        refine J.bipush (v := nI 12) g dX8_allSums_13 (by decide +kernel) ?_
        refine J.icmp_gtN g dX8_allSums_15 (tgt := 47) (by decide) (by omega) (by omega) (fun c_15 => absurd c_15 (by omega)) (fun c_15 => ?_)
        refine J.aload_n g dX8_allSums_18 rfl rfl ?_
        refine J.get g jX8 2 (by decide) lf_X8_19 0 rfl rfl dX8_allSums_19 ?_
        refine J.bipush (v := nI 12) g dX8_allSums_22 (by decide +kernel) ?_
        refine J.icmp_gtN g dX8_allSums_24 (tgt := 47) (by decide) (by omega) (by omega) (fun c_24 => absurd c_24 (by omega)) (fun c_24 => ?_)
        refine J.iload_n g dX8_allSums_27 rfl rfl ?_
        refine J.aload_n g dX8_allSums_28 rfl rfl ?_
        refine J.get g jX8 0 (by decide) lf_X8_11 0 rfl rfl dX8_allSums_29 ?_
        refine J.aload_n g dX8_allSums_32 rfl rfl ?_
        refine J.get g jX8 2 (by decide) lf_X8_19 0 rfl rfl dX8_allSums_33 ?_
        refine J.qaldK (r := ad pn) g 1 4 rfl rfl rfl (by omega) (by decide) rfl dX8_allSums_36 ?_
        refine J.iload_n g dX8_allSums_37 rfl rfl ?_
        refine J.ialdN (n := 13) g (2 + pn) (jrows_get rfl (by omega)) (by omega) (by decide) dX8_allSums_38 ?_
        refine J.ior' g dX8_allSums_39 (j_or _ _) ?_
        refine J.istore_n g dX8_allSums_40 rfl rfl rfl ?_
        try dsimp only [List.set_cons_zero, List.set_cons_succ]
        have hq : jors (M pn) (k + 1 - 1) = jors (M pn) (k - 1) ||| M pn k := by obtain ⟨z, rfl⟩ : ∃ z, k = z + 1 := ⟨k - 1, by omega⟩; rfl
        refine J.iincN g 1 dX8_allSums_41 rfl rfl ?_
        try dsimp only [List.set_cons_zero, List.set_cons_succ]
        refine J.goto g dX8_allSums_44 (tgt := 4) (by decide) ?_
        have ih2 := ih_lp (k + 1) (by omega) (by omega)
        rw [hq] at ih2
        exact J.lvle (jle_s (jle_s (jle_s jle_0))) ih2
  exact J.lvle (jle_s (jle_s (jle_s jle_0))) (lp _ 1 (Nat.lt_succ_self _) (by omega))
set_option maxHeartbeats 4000000 in
set_option maxRecDepth 100000 in
theorem c_X8_hasNought (l : Launch) (γ : jγ) (sr mq wq pn : Nat) (ad : Nat → Nat) (M : Nat → Nat → Nat) (hp : pn ≤ 12) (hM : ∀ k, k ≤ 12 → M pn k < 2 ^ 24) : jM (S := Unit) l γ yX8_hasNought cX8_hasNought 1 (some .boolean) ({ frames := 1, cells := 0, slots := 0, locals := 22 } : Room) [.ref sr] ([(sr, .inr (8, [.ref mq, .ref wq, .int (nI pn)])), (mq, .inl (γ.2 4, 13, .inr (.inr (.inr (.inr (fun i => some (ad i)))))))] ++ jrows γ ad 13 13 M) (fun w0 => some (.int (jB ((jors (M pn) pn).testBit 0)))) (fun w0 => ([(sr, .inr (8, [.ref mq, .ref wq, .int (nI pn)])), (mq, .inl (γ.2 4, 13, .inr (.inr (.inr (.inr (fun i => some (ad i)))))))] ++ jrows γ ad 13 13 M)) (fun w0 => True) := by
  refine jM.of [some (.ref sr)] rfl (Nat.le_of_ble_eq_true rfl) (by decide) ?_
  intro x g hE hin
  refine J.aload_n g dX8_hasNought_0 rfl rfl ?_
  refine J.callV0 g (c_X8_allSums l γ _ _ _ _ _ _ hp hM) jy_X8_allSums lm_X8_47 (q0 := 0) rfl jX8.1 ⟨⟨Nat.le_of_ble_eq_true rfl, Nat.le_of_ble_eq_true rfl⟩, Nat.le_of_ble_eq_true rfl, Nat.le_of_ble_eq_true rfl⟩ (Nat.le_of_ble_eq_true rfl) rfl [0, 1, 2, 3, 4, 5, 6, 7, 8, 9, 10, 11, 12, 13, 14] rfl rfl dX8_hasNought_1 ?_
  intro _ _
  dsimp only [jpush]
  refine J.iconstN g 0 dX8_hasNought_4 ?_
  refine J.callS0 g (c_X0_isIn l γ _ _ (by have := jors_lt (g := M pn) (n := 24) pn (fun j h1 h2 => hM j (by omega)); omega) (by omega)) jy_X0_isIn lm_X8_39 ⟨⟨Nat.le_of_ble_eq_true rfl, Nat.le_of_ble_eq_true rfl⟩, Nat.le_of_ble_eq_true rfl, Nat.le_of_ble_eq_true rfl⟩ (Nat.le_of_ble_eq_true rfl) rfl [] rfl rfl dX8_hasNought_5 ?_
  intro _ _
  dsimp only [jpush]
  exact J.zret (by first | rfl | exact j_nz _) g hE () rfl trivial rfl ⟨Nat.le_of_ble_eq_true rfl, Nat.le_of_ble_eq_true rfl⟩ dX8_hasNought_8
set_option maxHeartbeats 4000000 in
set_option maxRecDepth 100000 in
theorem c_X8_fewestPlaces (l : Launch) (γ : jγ) (sr mq wq pn : Nat) (ad : Nat → Nat) (M : Nat → Nat → Nat) (gg : Nat) (hp : pn ≤ 12) (hM : ∀ k, k ≤ 12 → M pn k < 2 ^ 24) (hg : gg < 24) : jM (S := Unit) l γ yX8_fewestPlaces cX8_fewestPlaces 3 (some .int) ({ frames := 3, cells := 0, slots := 0, locals := 66 } : Room) [.ref sr, .int (nI gg)] ([(sr, .inr (8, [.ref mq, .ref wq, .int (nI pn)])), (mq, .inl (γ.2 4, 13, .inr (.inr (.inr (.inr (fun i => some (ad i)))))))] ++ jrows γ ad 13 13 M) (fun w0 => some (.int (jfw M pn gg pn 1))) (fun w0 => ([(sr, .inr (8, [.ref mq, .ref wq, .int (nI pn)])), (mq, .inl (γ.2 4, 13, .inr (.inr (.inr (.inr (fun i => some (ad i)))))))] ++ jrows γ ad 13 13 M)) (fun w0 => True) := by
  refine jM.of [some (.ref sr), some (.int (nI gg)), none] rfl (Nat.le_of_ble_eq_true rfl) (by decide) ?_
  intro x g hE hin
  refine J.iconstN g 1 dX8_fewestPlaces_0 ?_
  refine J.istore_n g dX8_fewestPlaces_1 rfl rfl rfl ?_
  try dsimp only [List.set_cons_zero, List.set_cons_succ]
  have lp : ∀ (d : Nat) (k : Nat), pn + 1 - k < d → (1 ≤ k ∧ k ≤ pn + 1) → (jfw M pn gg pn 1 = jfw M pn gg (pn + 1 - k) k) → J γ l x ([(sr, .inr (8, [.ref mq, .ref wq, .int (nI pn)])), (mq, .inl (γ.2 4, 13, .inr (.inr (.inr (.inr (fun i => some (ad i)))))))] ++ jrows γ ad 13 13 M) [some (.ref sr), some (.int (nI gg)), some (.int (nI k))] [] 0 0 2 := by
    intro d
    induction d with
    | zero => intro k hm; exact absurd hm (Nat.not_lt_zero _)
    | succ d ih_lp =>
      intro k hm hi hr
      refine J.iload_n g dX8_fewestPlaces_2 rfl rfl ?_
      refine J.aload_n g dX8_fewestPlaces_3 rfl rfl ?_
      refine J.get g jX8 2 (by decide) lf_X8_19 0 rfl rfl dX8_fewestPlaces_4 ?_
      refine J.icmp_gtN g dX8_fewestPlaces_7 (tgt := 27) (by decide) (by omega) (by omega) (fun c_7 => ?_) (fun c_7 => ?_)
      · refine J.iconst (v := -1) g dX8_fewestPlaces_27 (by decide) ?_
        exact J.iret g hE () (by rw [hr, jfw_0 c_7]) trivial rfl ⟨Nat.le_of_ble_eq_true rfl, Nat.le_of_ble_eq_true rfl⟩ dX8_fewestPlaces_28
      · refine J.aload_n g dX8_fewestPlaces_10 rfl rfl ?_
        refine J.iload_n g dX8_fewestPlaces_11 rfl rfl ?_
        refine J.iload_n g dX8_fewestPlaces_12 rfl rfl ?_
        refine J.callV0 g (c_X8_canMake l γ _ _ _ _ _ _ _ _ hp (by omega) hg (hM k (by omega))) jy_X8_canMake lm_X8_53 (q0 := 0) rfl jX8.1 ⟨⟨Nat.le_of_ble_eq_true rfl, Nat.le_of_ble_eq_true rfl⟩, Nat.le_of_ble_eq_true rfl, Nat.le_of_ble_eq_true rfl⟩ (Nat.le_of_ble_eq_true rfl) rfl [0, 1, 2, 3, 4, 5, 6, 7, 8, 9, 10, 11, 12, 13, 14] rfl rfl dX8_fewestPlaces_13 ?_
        intro _ _
        dsimp only [jpush]
        refine J.if_eqB g dX8_fewestPlaces_16 (tgt := 21) (by decide) (fun c_16 => ?_) (fun c_16 => ?_)
        · refine J.iincN g 1 dX8_fewestPlaces_21 rfl rfl ?_
          try dsimp only [List.set_cons_zero, List.set_cons_succ]
          refine J.goto g dX8_fewestPlaces_24 (tgt := 2) (by decide) ?_
          exact J.lvle (jle_s (jle_s (jle_s jle_0))) (ih_lp (k + 1) (by omega) (by omega) (hr.trans (jfw_f (by omega) c_16)))
        · refine J.iload_n g dX8_fewestPlaces_19 rfl rfl ?_
          exact J.iret g hE () (by rw [hr, jfw_t (by omega) c_16]) trivial rfl ⟨Nat.le_of_ble_eq_true rfl, Nat.le_of_ble_eq_true rfl⟩ dX8_fewestPlaces_20
  exact J.lvle (jle_s (jle_s (jle_s jle_0))) (lp _ 1 (Nat.lt_succ_self _) (by omega) rfl)
set_option maxHeartbeats 4000000 in
set_option maxRecDepth 100000 in
theorem c_X8_hasLesserNought (l : Launch) (γ : jγ) (sr mq wq pn : Nat) (ad : Nat → Nat) (M : Nat → Nat → Nat) (hp : pn ≤ 12) (hM : ∀ k, k ≤ 12 → M pn k < 2 ^ 24) : jM (S := Unit) l γ yX8_hasLesserNought cX8_hasLesserNought 2 (some .boolean) ({ frames := 4, cells := 0, slots := 0, locals := 88 } : Room) [.ref sr] ([(sr, .inr (8, [.ref mq, .ref wq, .int (nI pn)])), (mq, .inl (γ.2 4, 13, .inr (.inr (.inr (.inr (fun i => some (ad i)))))))] ++ jrows γ ad 13 13 M) (fun w0 => some (.int (jB (jhl M pn)))) (fun w0 => ([(sr, .inr (8, [.ref mq, .ref wq, .int (nI pn)])), (mq, .inl (γ.2 4, 13, .inr (.inr (.inr (.inr (fun i => some (ad i)))))))] ++ jrows γ ad 13 13 M)) (fun w0 => True) := by
  refine jM.of [some (.ref sr), none] rfl (Nat.le_of_ble_eq_true rfl) (by decide) ?_
  intro x g hE hin
  refine J.aload_n g dX8_hasLesserNought_0 rfl rfl ?_
  refine J.iconstN g 0 dX8_hasLesserNought_1 ?_
  refine J.callV0 g (c_X8_fewestPlaces l γ _ _ _ _ _ _ _ hp hM (by omega)) jy_X8_fewestPlaces lm_X8_50 (q0 := 0) rfl jX8.1 ⟨⟨Nat.le_of_ble_eq_true rfl, Nat.le_of_ble_eq_true rfl⟩, Nat.le_of_ble_eq_true rfl, Nat.le_of_ble_eq_true rfl⟩ (Nat.le_of_ble_eq_true rfl) rfl [0, 1, 2, 3, 4, 5, 6, 7, 8, 9, 10, 11, 12, 13, 14] rfl rfl dX8_hasLesserNought_2 ?_
  intro _ _
  dsimp only [jpush]
  refine J.istore_n g dX8_hasLesserNought_5 rfl rfl rfl ?_
  try dsimp only [List.set_cons_zero, List.set_cons_succ]
  refine J.iload_n g dX8_hasLesserNought_6 rfl rfl ?_
  refine J.iconst (v := -1) g dX8_hasLesserNought_7 (by decide) ?_
  refine J.icmp_eq g dX8_hasLesserNought_8 (tgt := 23) (by decide) (fun c_8 => ?_) (fun c_8 => ?_)
  · refine J.iconstN g 0 dX8_hasLesserNought_23 ?_
    exact J.zret (by first | rfl | exact j_nz _) g hE () (jB_f (by first | exact jhl_t c_8 c_16 | exact jhl_f2 c_16 | exact jhl_f1 c_8)) trivial rfl ⟨Nat.le_of_ble_eq_true rfl, Nat.le_of_ble_eq_true rfl⟩ dX8_hasLesserNought_24
  · refine J.iload_n g dX8_hasLesserNought_11 rfl rfl ?_
    refine J.aload_n g dX8_hasLesserNought_12 rfl rfl ?_
    refine J.get g jX8 2 (by decide) lf_X8_19 0 rfl rfl dX8_hasLesserNought_13 ?_
    refine J.icmp_ge g dX8_hasLesserNought_16 (tgt := 23) (by decide) (fun c_16 => ?_) (fun c_16 => ?_)
    · refine J.iconstN g 0 dX8_hasLesserNought_23 ?_
      exact J.zret (by first | rfl | exact j_nz _) g hE () (jB_f (by first | exact jhl_t c_8 c_16 | exact jhl_f2 c_16 | exact jhl_f1 c_8)) trivial rfl ⟨Nat.le_of_ble_eq_true rfl, Nat.le_of_ble_eq_true rfl⟩ dX8_hasLesserNought_24
    · refine J.iconstN g 1 dX8_hasLesserNought_19 ?_
      refine J.goto g dX8_hasLesserNought_20 (tgt := 24) (by decide) ?_
      exact J.zret (by first | rfl | exact j_nz _) g hE () (jB_t (by first | exact jhl_t c_8 c_16 | exact jhl_f2 c_16 | exact jhl_f1 c_8)) trivial rfl ⟨Nat.le_of_ble_eq_true rfl, Nat.le_of_ble_eq_true rfl⟩ dX8_hasLesserNought_24
set_option maxHeartbeats 4000000 in
set_option maxRecDepth 100000 in
theorem c_X8_study (l : Launch) (γ : jγ) (sr mq wq pn : Nat) (ad : Nat → Nat) (M : Nat → Nat → Nat) (a e n : Nat) (f : Nat → Nat) (gr mk ag cd pt od ex : Nat) (mf af : Nat → Nat) (hn : n ≤ 12) (hf : ∀ j, j < n → f j < 24) (hT : jtab od mf af) : jM (S := Nat → Nat → Nat) l γ yX8_study cX8_study 5 none ({ frames := 3, cells := 0, slots := 0, locals := 67 } : Room) [.ref sr, .ref gr, .ref a] ([(sr, .inr (8, [.ref mq, .ref wq, .int (nI pn)])), (mq, .inl (γ.2 4, 13, .inr (.inr (.inr (.inr (fun i => some (ad i))))))), (a, .inr (6, [.ref e, .int (nI n)])), (e, .inl (γ.2 0, 12, .inl (fun j => nI (f j)))), (gr, .inr (0, [.ref mk, .ref ag, .int (nI cd), .int (nI pt), .int (nI od), .int (nI ex)])), (mk, .inl (γ.2 1, 576, .inl (fun j => nI (mf j)))), (ag, .inl (γ.2 1, 24, .inl (fun j => nI (af j))))] ++ jrows γ ad 13 13 M) (fun u => none) (fun u => ([(sr, .inr (8, [.ref mq, .ref wq, .int (nI n)])), (mq, .inl (γ.2 4, 13, .inr (.inr (.inr (.inr (fun i => some (ad i))))))), (a, .inr (6, [.ref e, .int (nI n)])), (e, .inl (γ.2 0, 12, .inl (fun j => nI (f j)))), (gr, .inr (0, [.ref mk, .ref ag, .int (nI cd), .int (nI pt), .int (nI od), .int (nI ex)])), (mk, .inl (γ.2 1, 576, .inl (fun j => nI (mf j)))), (ag, .inl (γ.2 1, 24, .inl (fun j => nI (af j))))] ++ jrows γ ad 13 13 u)) (fun u => ∀ i, i ≤ n → ∀ k, k ≤ 12 → u i k = msub od mf f i k) := by
  refine jM.of [some (.ref sr), some (.ref gr), some (.ref a), none, none] rfl (Nat.le_of_ble_eq_true rfl) (by decide) ?_
  intro x g hE hin
  refine J.aload_n g dX8_study_0 rfl rfl ?_
  refine J.aload_n g dX8_study_1 rfl rfl ?_
  refine J.callV0 g (c_X6_length l γ _ _ _ _ ) jy_X6_length lm_X8_23 (q0 := 2) rfl jX6.1 ⟨⟨Nat.le_of_ble_eq_true rfl, Nat.le_of_ble_eq_true rfl⟩, Nat.le_of_ble_eq_true rfl, Nat.le_of_ble_eq_true rfl⟩ (Nat.le_of_ble_eq_true rfl) rfl [2, 3] rfl rfl dX8_study_2 ?_
  intro _ _
  dsimp only [jpush]
  refine J.put g jX8 2 (by decide) lf_X8_19 0 rfl rfl (Nat.le_of_ble_eq_true rfl) rfl rfl dX8_study_5 ?_
  try dsimp only [List.set_cons_zero, List.set_cons_succ]
  refine J.iconstN g 0 dX8_study_8 ?_
  refine J.istore_n g dX8_study_9 rfl rfl rfl ?_
  try dsimp only [List.set_cons_zero, List.set_cons_succ]
  have lp : ∀ (d : Nat) (k : Nat) (M1 : Nat → Nat → Nat), 13 - k < d → (k ≤ 13) → (∀ j, j < k → M1 0 j = msub od mf f 0 j) → J γ l x ([(sr, .inr (8, [.ref mq, .ref wq, .int (nI n)])), (mq, .inl (γ.2 4, 13, .inr (.inr (.inr (.inr (fun i => some (ad i))))))), (a, .inr (6, [.ref e, .int (nI n)])), (e, .inl (γ.2 0, 12, .inl (fun j => nI (f j)))), (gr, .inr (0, [.ref mk, .ref ag, .int (nI cd), .int (nI pt), .int (nI od), .int (nI ex)])), (mk, .inl (γ.2 1, 576, .inl (fun j => nI (mf j)))), (ag, .inl (γ.2 1, 24, .inl (fun j => nI (af j))))] ++ jrows γ ad 13 13 M1) [some (.ref sr), some (.ref gr), some (.ref a), some (.int (nI k)), none] [] 0 0 10 := by
    intro d
    induction d with
    | zero => intro k M1 hm; exact absurd hm (Nat.not_lt_zero _)
    | succ d ih_lp =>
      intro k M1 hm hi hh
      refine J.iload_n g dX8_study_10 rfl rfl ?_
      refine J.bipush (v := nI 12) g dX8_study_11 (by decide +kernel) ?_
      refine J.icmp_gtN g dX8_study_13 (tgt := 39) (by decide) (by omega) (by omega) (fun c_13 => ?_) (fun c_13 => ?_)
      · refine J.iconstN g 1 dX8_study_39 ?_
        refine J.istore_n g dX8_study_40 rfl rfl rfl ?_
        try dsimp only [List.set_cons_zero, List.set_cons_succ]
        have lq : ∀ (d : Nat) (i : Nat) (M1 : Nat → Nat → Nat), n + 1 - i < d → (1 ≤ i ∧ i ≤ n + 1) → (∀ a, a < i → ∀ k, k ≤ 12 → M1 a k = msub od mf f a k) → J γ l x ([(sr, .inr (8, [.ref mq, .ref wq, .int (nI n)])), (mq, .inl (γ.2 4, 13, .inr (.inr (.inr (.inr (fun i => some (ad i))))))), (a, .inr (6, [.ref e, .int (nI n)])), (e, .inl (γ.2 0, 12, .inl (fun j => nI (f j)))), (gr, .inr (0, [.ref mk, .ref ag, .int (nI cd), .int (nI pt), .int (nI od), .int (nI ex)])), (mk, .inl (γ.2 1, 576, .inl (fun j => nI (mf j)))), (ag, .inl (γ.2 1, 24, .inl (fun j => nI (af j))))] ++ jrows γ ad 13 13 M1) [some (.ref sr), some (.ref gr), some (.ref a), some (.int (nI i)), none] [] 0 0 41 := by
          intro d
          induction d with
          | zero => intro i M1 hm; exact absurd hm (Nat.not_lt_zero _)
          | succ d ih_lq =>
            intro i M1 hm hi hh
            refine J.iload_n g dX8_study_41 rfl rfl ?_
            refine J.aload_n g dX8_study_42 rfl rfl ?_
            refine J.get g jX8 2 (by decide) lf_X8_19 0 rfl rfl dX8_study_43 ?_
            refine J.icmp_gtN g dX8_study_46 (tgt := 131) (by decide) (by omega) (by omega) (fun c_46 => ?_) (fun c_46 => ?_)
            · exact J.vret g hE M1 rfl (fun a ha k hk => hh a (by omega) k hk) rfl ⟨Nat.le_of_ble_eq_true rfl, Nat.le_of_ble_eq_true rfl⟩ dX8_study_131
            · refine J.iload_n g dX8_study_49 rfl rfl ?_
              refine J.bipush (v := nI 12) g dX8_study_50 (by decide +kernel) ?_
              refine J.icmp_gtN g dX8_study_52 (tgt := 131) (by decide) (by omega) (by omega) (fun c_52 => absurd c_52 (by omega)) (fun c_52 => ?_)
              refine J.aload_n g dX8_study_55 rfl rfl ?_
              refine J.get g jX8 0 (by decide) lf_X8_11 0 rfl rfl dX8_study_56 ?_
              refine J.iload_n g dX8_study_59 rfl rfl ?_
              refine J.qaldK (r := ad i) g 1 4 rfl rfl rfl (by omega) (by decide) rfl dX8_study_60 ?_
              refine J.iconstN g 0 dX8_study_61 ?_
              refine J.iconstN g 1 dX8_study_62 ?_
              refine J.iastN (n := 13) g (7 + i) (jrows_get rfl (by omega)) (by omega) (by decide) dX8_study_63 ?_
              refine J.eqws (jrows_set (b := 7) rfl (by omega)) ?_
              refine J.iconstN g 1 dX8_study_64 ?_
              refine J.istore g dX8_study_65 rfl rfl ?_
              try dsimp only [List.set_cons_zero, List.set_cons_succ]
              have lr : ∀ (d : Nat) (k : Nat) (M2 : Nat → Nat → Nat), 13 - k < d → (1 ≤ k ∧ k ≤ 13) → (∀ a, a < i → ∀ k, k ≤ 12 → M2 a k = msub od mf f a k) → (∀ c, c < k → M2 i c = msub od mf f i c) → J γ l x ([(sr, .inr (8, [.ref mq, .ref wq, .int (nI n)])), (mq, .inl (γ.2 4, 13, .inr (.inr (.inr (.inr (fun i => some (ad i))))))), (a, .inr (6, [.ref e, .int (nI n)])), (e, .inl (γ.2 0, 12, .inl (fun j => nI (f j)))), (gr, .inr (0, [.ref mk, .ref ag, .int (nI cd), .int (nI pt), .int (nI od), .int (nI ex)])), (mk, .inl (γ.2 1, 576, .inl (fun j => nI (mf j)))), (ag, .inl (γ.2 1, 24, .inl (fun j => nI (af j))))] ++ jrows γ ad 13 13 M2) [some (.ref sr), some (.ref gr), some (.ref a), some (.int (nI i)), some (.int (nI k))] [] 0 0 67 := by
                intro d
                induction d with
                | zero => intro k M2 hm; exact absurd hm (Nat.not_lt_zero _)
                | succ d ih_lr =>
                  intro k M2 hm hk h2 h3
                  refine J.iload g dX8_study_67 rfl ?_
                  refine J.bipush (v := nI 12) g dX8_study_69 (by decide +kernel) ?_
                  refine J.icmp_gtN g dX8_study_71 (tgt := 125) (by decide) (by omega) (by omega) (fun c_71 => ?_) (fun c_71 => ?_)
                  · refine J.iincN g 1 dX8_study_125 rfl rfl ?_
                    try dsimp only [List.set_cons_zero, List.set_cons_succ]
                    refine J.goto g dX8_study_128 (tgt := 41) (by decide) ?_
                    exact J.lvle (jle_s (jle_s (jle_s (jle_s (jle_n jle_0))))) (ih_lq (i + 1) M2 (by omega) (by omega) (lt_s h2 (fun k hk => h3 k (by omega))))
                  · have hv : M2 (i - 1) k ||| jmoved od mf (M2 (i - 1) (k - 1)) (f (i - 1)) od = msub od mf f i k := by rw [h2 (i - 1) (by omega) k (by omega), h2 (i - 1) (by omega) (k - 1) (by omega), ← msub_s hi.1 hk.1]
                    refine J.aload_n g dX8_study_74 rfl rfl ?_
                    refine J.get g jX8 0 (by decide) lf_X8_11 0 rfl rfl dX8_study_75 ?_
                    refine J.iload_n g dX8_study_78 rfl rfl ?_
                    refine J.qaldK (r := ad i) g 1 4 rfl rfl rfl (by omega) (by decide) rfl dX8_study_79 ?_
                    refine J.iload g dX8_study_80 rfl ?_
                    refine J.aload_n g dX8_study_82 rfl rfl ?_
                    refine J.get g jX8 0 (by decide) lf_X8_11 0 rfl rfl dX8_study_83 ?_
                    refine J.iload_n g dX8_study_86 rfl rfl ?_
                    refine J.iconstN g 1 dX8_study_87 ?_
                    refine J.isubN g dX8_study_88 (by omega) ?_
                    refine J.qaldK (r := ad (i - 1)) g 1 4 rfl rfl rfl (by omega) (by decide) rfl dX8_study_89 ?_
                    refine J.iload g dX8_study_90 rfl ?_
                    refine J.ialdN (n := 13) g (7 + (i - 1)) (jrows_get rfl (by omega)) (by omega) (by decide) dX8_study_92 ?_
                    refine J.aload_n g dX8_study_93 rfl rfl ?_
                    refine J.aload_n g dX8_study_94 rfl rfl ?_
                    refine J.get g jX8 0 (by decide) lf_X8_11 0 rfl rfl dX8_study_95 ?_
                    refine J.iload_n g dX8_study_98 rfl rfl ?_
                    refine J.iconstN g 1 dX8_study_99 ?_
                    refine J.isubN g dX8_study_100 (by omega) ?_
                    refine J.qaldK (r := ad (i - 1)) g 1 4 rfl rfl rfl (by omega) (by decide) rfl dX8_study_101 ?_
                    refine J.iload g dX8_study_102 rfl ?_
                    refine J.iconstN g 1 dX8_study_104 ?_
                    refine J.isubN g dX8_study_105 (by omega) ?_
                    refine J.ialdN (n := 13) g (7 + (i - 1)) (jrows_get rfl (by omega)) (by omega) (by decide) dX8_study_106 ?_
                    refine J.aload_n g dX8_study_107 rfl rfl ?_
                    refine J.iload_n g dX8_study_108 rfl rfl ?_
                    refine J.iconstN g 1 dX8_study_109 ?_
                    refine J.isubN g dX8_study_110 (by omega) ?_
                    refine J.callV0 g (c_X6_elementAt_n l γ _ _ _ _ _ hn (by omega)) jy_X6_elementAt lm_X8_29 (q0 := 2) rfl jX6.1 ⟨⟨Nat.le_of_ble_eq_true rfl, Nat.le_of_ble_eq_true rfl⟩, Nat.le_of_ble_eq_true rfl, Nat.le_of_ble_eq_true rfl⟩ (Nat.le_of_ble_eq_true rfl) rfl [2, 3] rfl rfl dX8_study_111 ?_
                    intro _ _
                    dsimp only [jpush]
                    refine J.callV0 g (c_X0_moved l γ _ _ _ _ _ _ _ _ _ _ _ hT (by rw [h2 (i - 1) (by omega) (k - 1) (by omega)]; exact msub_lt hT _ _) (hf (i - 1) (by omega))) jy_X0_moved lm_X8_33 (q0 := 4) rfl jX0.1 ⟨⟨Nat.le_of_ble_eq_true rfl, Nat.le_of_ble_eq_true rfl⟩, Nat.le_of_ble_eq_true rfl, Nat.le_of_ble_eq_true rfl⟩ (Nat.le_of_ble_eq_true rfl) rfl [4, 5, 6] rfl rfl dX8_study_114 ?_
                    intro _ _
                    dsimp only [jpush]
                    refine J.ior' g dX8_study_117 (j_or _ _) ?_
                    refine J.iastN (n := 13) g (7 + i) (jrows_get rfl (by omega)) (by omega) (by decide) dX8_study_118 ?_
                    refine J.eqws (jrows_set (b := 7) rfl (by omega)) ?_
                    refine J.iincN g 1 dX8_study_119 rfl rfl ?_
                    try dsimp only [List.set_cons_zero, List.set_cons_succ]
                    refine J.goto g dX8_study_122 (tgt := 67) (by decide) ?_
                    exact J.lvle (jle_s (jle_s (jle_s (jle_s (jle_s jle_0))))) (ih_lr (k + 1) _ (by omega) (by omega) (fun a ha c hc => (jm2_ne (Or.inl (by omega))).trans (h2 a ha c hc)) (lt_s (fun c hc => (jm2_ne (Or.inr (by omega))).trans (h3 c hc)) (by rw [jm2_at]; exact hv)))
              exact J.lvle (jle_s (jle_s (jle_s (jle_s (jle_s jle_0))))) (lr _ 1 (jm2 M1 i 0 1) (Nat.lt_succ_self _) (by omega) (fun a ha c hc => (jm2_ne (Or.inl (by omega))).trans (hh a ha c hc)) (fun c hc => by obtain rfl : c = 0 := (by omega); rw [jm2_at, msub_1]))
        exact J.lvle (jle_s (jle_s (jle_s (jle_s (jle_n jle_0))))) (lq _ 1 M1 (Nat.lt_succ_self _) (by omega) (fun a ha k hk => by obtain rfl : a = 0 := (by omega); exact hh k (by omega)))
      · refine J.aload_n g dX8_study_16 rfl rfl ?_
        refine J.get g jX8 0 (by decide) lf_X8_11 0 rfl rfl dX8_study_17 ?_
        refine J.iconstN g 0 dX8_study_20 ?_
        refine J.qaldK (r := ad 0) g 1 4 rfl rfl rfl (by omega) (by decide) rfl dX8_study_21 ?_
        refine J.iload_n g dX8_study_22 rfl rfl ?_
        refine J.iload_n g dX8_study_23 rfl rfl ?_
        refine J.if_neN g dX8_study_24 (tgt := 31) (by decide) (by omega) (fun c_24 => ?_) (fun c_24 => ?_)
        · have hnx := lt_s (p := fun j => jm2 M1 0 k 0 0 j = msub od mf f 0 j) (i := k) (fun j hj => (jm2_ne (Or.inr (by omega))).trans (hh j hj)) (by rw [jm2_at, msub, if_neg c_24])
          refine J.iconstN g 0 dX8_study_31 ?_
          refine J.iastN (n := 13) g (7 + 0) (jrows_get rfl (by omega)) (by omega) (by decide) dX8_study_32 ?_
          refine J.eqws (jrows_set (b := 7) rfl (by omega)) ?_
          refine J.iincN g 1 dX8_study_33 rfl rfl ?_
          try dsimp only [List.set_cons_zero, List.set_cons_succ]
          refine J.goto g dX8_study_36 (tgt := 10) (by decide) ?_
          exact J.lvle (jle_s (jle_s (jle_s (jle_s (jle_n jle_0))))) (ih_lp (k + 1) _ (by omega) (by omega) hnx)
        · have hnx := lt_s (p := fun j => jm2 M1 0 k 1 0 j = msub od mf f 0 j) (i := k) (fun j hj => (jm2_ne (Or.inr (by omega))).trans (hh j hj)) (by rw [jm2_at, msub, if_pos c_24])
          refine J.iconstN g 1 dX8_study_27 ?_
          refine J.goto g dX8_study_28 (tgt := 32) (by decide) ?_
          refine J.iastN (n := 13) g (7 + 0) (jrows_get rfl (by omega)) (by omega) (by decide) dX8_study_32 ?_
          refine J.eqws (jrows_set (b := 7) rfl (by omega)) ?_
          refine J.iincN g 1 dX8_study_33 rfl rfl ?_
          try dsimp only [List.set_cons_zero, List.set_cons_succ]
          refine J.goto g dX8_study_36 (tgt := 10) (by decide) ?_
          exact J.lvle (jle_s (jle_s (jle_s (jle_s (jle_n jle_0))))) (ih_lp (k + 1) _ (by omega) (by omega) hnx)
  exact J.lvle (jle_s (jle_s (jle_s (jle_s (jle_n jle_0))))) (lp _ 0 M (Nat.lt_succ_self _) (by omega) (fun j h => absurd h (Nat.not_lt_zero _)))
set_option maxHeartbeats 4000000 in
set_option maxRecDepth 100000 in
theorem c_X8_leastSet (l : Launch) (γ : jγ) (sr mq wq pn : Nat) (ad : Nat → Nat) (M : Nat → Nat → Nat) (a e n : Nat) (f : Nat → Nat) (gr mk ag cd pt od ex : Nat) (mf af : Nat → Nat) (gg kc : Nat) (hn : n ≤ 12) (hf : ∀ j, j < n → f j < 24) (hT : jtab od mf af) (hp : pn = n) (hM : ∀ i, i ≤ n → ∀ k, k ≤ 12 → M i k < 2 ^ 24) (hg : gg < 24) (hk : kc ≤ 12) (h0 : (M n kc).testBit gg = true) (hst : ∀ p l c, p < n → c ≤ 12 → l < 24 → (M (p + 1) c).testBit l = true → (M p c).testBit l = false → 1 ≤ c ∧ (M p (c - 1)).testBit (jpl od mf l (jop od af (f p))) = true) : jM (S := Unit) l γ yX8_leastSet cX8_leastSet 9 (some .int) ({ frames := 2, cells := 0, slots := 0, locals := 44 } : Room) [.ref sr, .ref gr, .ref a, .int (nI gg), .int (nI kc)] ([(sr, .inr (8, [.ref mq, .ref wq, .int (nI pn)])), (mq, .inl (γ.2 4, 13, .inr (.inr (.inr (.inr (fun i => some (ad i))))))), (a, .inr (6, [.ref e, .int (nI n)])), (e, .inl (γ.2 0, 12, .inl (fun j => nI (f j)))), (gr, .inr (0, [.ref mk, .ref ag, .int (nI cd), .int (nI pt), .int (nI od), .int (nI ex)])), (mk, .inl (γ.2 1, 576, .inl (fun j => nI (mf j)))), (ag, .inl (γ.2 1, 24, .inl (fun j => nI (af j))))] ++ jrows γ ad 13 13 M) (fun w0 => some (.int (nI (jls od mf af f M n gg kc 0)))) (fun w0 => ([(sr, .inr (8, [.ref mq, .ref wq, .int (nI pn)])), (mq, .inl (γ.2 4, 13, .inr (.inr (.inr (.inr (fun i => some (ad i))))))), (a, .inr (6, [.ref e, .int (nI n)])), (e, .inl (γ.2 0, 12, .inl (fun j => nI (f j)))), (gr, .inr (0, [.ref mk, .ref ag, .int (nI cd), .int (nI pt), .int (nI od), .int (nI ex)])), (mk, .inl (γ.2 1, 576, .inl (fun j => nI (mf j)))), (ag, .inl (γ.2 1, 24, .inl (fun j => nI (af j))))] ++ jrows γ ad 13 13 M)) (fun w0 => True) := by
  subst hp
  refine jM.of [some (.ref sr), some (.ref gr), some (.ref a), some (.int (nI gg)), some (.int (nI kc)), none, none, none, none] rfl (Nat.le_of_ble_eq_true rfl) (by decide) ?_
  intro x g hE hin
  refine J.iconstN g 0 dX8_leastSet_0 ?_
  refine J.istore g dX8_leastSet_1 rfl rfl ?_
  try dsimp only [List.set_cons_zero, List.set_cons_succ]
  refine J.iload_n g dX8_leastSet_3 rfl rfl ?_
  refine J.istore g dX8_leastSet_4 rfl rfl ?_
  try dsimp only [List.set_cons_zero, List.set_cons_succ]
  refine J.iload g dX8_leastSet_6 rfl ?_
  refine J.istore g dX8_leastSet_8 rfl rfl ?_
  try dsimp only [List.set_cons_zero, List.set_cons_succ]
  refine J.aload_n g dX8_leastSet_10 rfl rfl ?_
  refine J.get g jX8 2 (by decide) lf_X8_19 0 rfl rfl dX8_leastSet_11 ?_
  refine J.iconstN g 1 dX8_leastSet_14 ?_
  refine J.isub' g dX8_leastSet_15 (j_subm _) ?_
  refine J.istore g dX8_leastSet_16 rfl rfl ?_
  try dsimp only [List.set_cons_zero, List.set_cons_succ]
  have lp : ∀ (k : Nat) (w1 c s : Nat), (k ≤ pn) → (w1 < 24) → (c ≤ 12) → ((M k c).testBit w1 = true) → (jls od mf af f M pn gg kc 0 = jls od mf af f M k w1 c s) → J γ l x ([(sr, .inr (8, [.ref mq, .ref wq, .int (nI pn)])), (mq, .inl (γ.2 4, 13, .inr (.inr (.inr (.inr (fun i => some (ad i))))))), (a, .inr (6, [.ref e, .int (nI pn)])), (e, .inl (γ.2 0, 12, .inl (fun j => nI (f j)))), (gr, .inr (0, [.ref mk, .ref ag, .int (nI cd), .int (nI pt), .int (nI od), .int (nI ex)])), (mk, .inl (γ.2 1, 576, .inl (fun j => nI (mf j)))), (ag, .inl (γ.2 1, 24, .inl (fun j => nI (af j))))] ++ jrows γ ad 13 13 M) [some (.ref sr), some (.ref gr), some (.ref a), some (.int (nI gg)), some (.int (nI kc)), some (.int (nI s)), some (.int (nI w1)), some (.int (nI c)), some (.int (jm1 k))] [] 0 0 18 := by
    intro k
    induction k with
    | zero =>
      intro w1 c s hb0 hb1 hb2 hb3 hr
      rw [jm1_0]
      refine J.iload g dX8_leastSet_18 rfl ?_
      refine J.if_lt g dX8_leastSet_20 (tgt := 72) (by decide) (fun _ => ?_) (fun q => absurd (by decide) q)
      refine J.iload g dX8_leastSet_72 rfl ?_
      exact J.iret g hE () (by rw [hr]; rfl) trivial rfl ⟨Nat.le_of_ble_eq_true rfl, Nat.le_of_ble_eq_true rfl⟩ dX8_leastSet_74
    | succ k ih_lp =>
      intro w1 c s hb0 hb1 hb2 hb3 hr
      rw [jm1_s]
      refine J.iload g dX8_leastSet_18 rfl ?_
      refine J.if_ltN g dX8_leastSet_20 (tgt := 72) (by decide) (by omega) ?_
      refine J.aload_n g dX8_leastSet_23 rfl rfl ?_
      refine J.iload g dX8_leastSet_24 rfl ?_
      refine J.iload g dX8_leastSet_26 rfl ?_
      refine J.iload g dX8_leastSet_28 rfl ?_
      refine J.callV0 g (c_X8_makes l γ _ _ _ _ _ _ _ _ _ (by omega) hb2 hb1 (hM k (by omega) c hb2)) jy_X8_makes lm_X8_43 (q0 := 0) rfl jX8.1 ⟨⟨Nat.le_of_ble_eq_true rfl, Nat.le_of_ble_eq_true rfl⟩, Nat.le_of_ble_eq_true rfl, Nat.le_of_ble_eq_true rfl⟩ (Nat.le_of_ble_eq_true rfl) rfl [0, 1, 7, 8, 9, 10, 11, 12, 13, 14, 15, 16, 17, 18, 19] rfl rfl dX8_leastSet_30 ?_
      intro _ _
      dsimp only [jpush]
      refine J.if_neB g dX8_leastSet_33 (tgt := 66) (by decide) (fun c_33 => ?_) (fun c_33 => ?_)
      · have hc1 := hb1
        have hc2 := hb2
        have hc3 := c_33
        have hc4 := hr.trans (by rw [jls, if_pos c_33])
        refine J.iinc g dX8_leastSet_66 rfl rfl (j_decm _) ?_
        try dsimp only [List.set_cons_zero, List.set_cons_succ]
        refine J.goto g dX8_leastSet_69 (tgt := 18) (by decide) ?_
        exact J.lvle (jle_s (jle_s (jle_s (jle_s (jle_s (jle_s (jle_s (jle_s (jle_s jle_0))))))))) (ih_lp _ _ _ (by omega) hc1 hc2 hc3 hc4)
      · have hq0 := hst k w1 c (by omega) hb2 hb1 hb3 c_33
        have hc1 := jpl_24 hT w1 (jop od af (f k))
        have hc2 : c - 1 ≤ 12 := by omega
        have hc3 := hq0.2
        have hc4 := hr.trans (by rw [jls, if_neg (by rw [c_33]; decide)])
        refine J.iload g dX8_leastSet_36 rfl ?_
        refine J.iconstN g 1 dX8_leastSet_38 ?_
        refine J.iload g dX8_leastSet_39 rfl ?_
        refine J.ishl' g dX8_leastSet_41 (j_pow (by omega)) ?_
        refine J.ior' g dX8_leastSet_42 (j_or _ _) ?_
        refine J.istore g dX8_leastSet_43 rfl rfl ?_
        try dsimp only [List.set_cons_zero, List.set_cons_succ]
        refine J.aload_n g dX8_leastSet_45 rfl rfl ?_
        refine J.iload g dX8_leastSet_46 rfl ?_
        refine J.aload_n g dX8_leastSet_48 rfl rfl ?_
        refine J.aload_n g dX8_leastSet_49 rfl rfl ?_
        refine J.iload g dX8_leastSet_50 rfl ?_
        refine J.callV0 g (c_X6_elementAt_n l γ _ _ _ _ _ hn (by omega)) jy_X6_elementAt lm_X8_29 (q0 := 2) rfl jX6.1 ⟨⟨Nat.le_of_ble_eq_true rfl, Nat.le_of_ble_eq_true rfl⟩, Nat.le_of_ble_eq_true rfl, Nat.le_of_ble_eq_true rfl⟩ (Nat.le_of_ble_eq_true rfl) rfl [2, 3] rfl rfl dX8_leastSet_52 ?_
        intro _ _
        dsimp only [jpush]
        refine J.callV0 g (c_X0_opposite l γ _ _ _ _ _ _ _ _ _ _ hT (by have := hf k (by omega); omega)) jy_X0_opposite lm_X8_56 (q0 := 4) rfl jX0.1 ⟨⟨Nat.le_of_ble_eq_true rfl, Nat.le_of_ble_eq_true rfl⟩, Nat.le_of_ble_eq_true rfl, Nat.le_of_ble_eq_true rfl⟩ (Nat.le_of_ble_eq_true rfl) rfl [4, 5, 6] rfl rfl dX8_leastSet_55 ?_
        intro _ _
        dsimp only [jpush]
        refine J.callV0 g (c_X0_plus l γ _ _ _ _ _ _ _ _ _ _ _ hT (by omega) (by have := jop_24 hT (f k); omega)) jy_X0_plus lm_X8_59 (q0 := 4) rfl jX0.1 ⟨⟨Nat.le_of_ble_eq_true rfl, Nat.le_of_ble_eq_true rfl⟩, Nat.le_of_ble_eq_true rfl, Nat.le_of_ble_eq_true rfl⟩ (Nat.le_of_ble_eq_true rfl) rfl [4, 5, 6] rfl rfl dX8_leastSet_58 ?_
        intro _ _
        dsimp only [jpush]
        refine J.istore g dX8_leastSet_61 rfl rfl ?_
        try dsimp only [List.set_cons_zero, List.set_cons_succ]
        refine J.idecN g dX8_leastSet_63 rfl rfl hq0.1 ?_
        try dsimp only [List.set_cons_zero, List.set_cons_succ]
        refine J.iinc g dX8_leastSet_66 rfl rfl (j_decm _) ?_
        try dsimp only [List.set_cons_zero, List.set_cons_succ]
        refine J.goto g dX8_leastSet_69 (tgt := 18) (by decide) ?_
        exact J.lvle (jle_s (jle_s (jle_s (jle_s (jle_s (jle_s (jle_s (jle_s (jle_s jle_0))))))))) (ih_lp _ _ _ (by omega) hc1 hc2 hc3 hc4)
  exact J.lvle (jle_s (jle_s (jle_s (jle_s (jle_s (jle_s (jle_s (jle_s (jle_s jle_0))))))))) (lp pn gg kc 0 (Nat.le_refl _) hg hk h0 rfl)
set_option maxHeartbeats 4000000 in
set_option maxRecDepth 100000 in
theorem c_X8_addWays (l : Launch) (γ : jγ) (sr mq wq pn : Nat) (ad : Nat → Nat) (W : Nat → Nat → Nat) (gr mk ag cd pt od ex : Nat) (mf af : Nat → Nat) (k el : Nat) (hT : jtab od mf af) (hk : 1 ≤ k ∧ k ≤ 12) (he : el < 24) : jM (S := Nat → Nat → Nat) l γ yX8_addWays cX8_addWays 6 none ({ frames := 2, cells := 0, slots := 0, locals := 43 } : Room) [.ref sr, .ref gr, .int (nI k), .int (nI el)] ([(sr, .inr (8, [.ref mq, .ref wq, .int (nI pn)])), (wq, .inl (γ.2 4, 13, .inr (.inr (.inr (.inr (fun i => some (ad i))))))), (gr, .inr (0, [.ref mk, .ref ag, .int (nI cd), .int (nI pt), .int (nI od), .int (nI ex)])), (mk, .inl (γ.2 1, 576, .inl (fun j => nI (mf j)))), (ag, .inl (γ.2 1, 24, .inl (fun j => nI (af j))))] ++ jrows γ ad 13 24 W) (fun u => none) (fun u => ([(sr, .inr (8, [.ref mq, .ref wq, .int (nI pn)])), (wq, .inl (γ.2 4, 13, .inr (.inr (.inr (.inr (fun i => some (ad i))))))), (gr, .inr (0, [.ref mk, .ref ag, .int (nI cd), .int (nI pt), .int (nI od), .int (nI ex)])), (mk, .inl (γ.2 1, 576, .inl (fun j => nI (mf j)))), (ag, .inl (γ.2 1, 24, .inl (fun j => nI (af j))))] ++ jrows γ ad 13 24 u)) (fun u => ∀ x y, u x y = if x = k ∧ y < od then W x y + W (k - 1) (jpl od mf y (jop od af el)) else W x y) := by
  refine jM.of [some (.ref sr), some (.ref gr), some (.int (nI k)), some (.int (nI el)), none, none] rfl (Nat.le_of_ble_eq_true rfl) (by decide) ?_
  intro x g hE hin
  have hT1 := hT.1
  refine J.iload_n g dX8_addWays_0 rfl rfl ?_
  refine J.iconstN g 1 dX8_addWays_1 ?_
  refine J.icmp_ltN g dX8_addWays_2 (tgt := 11) (by decide) (by omega) (by omega) (fun c_2 => absurd c_2 (by omega)) (fun c_2 => ?_)
  refine J.iload_n g dX8_addWays_5 rfl rfl ?_
  refine J.bipush (v := nI 12) g dX8_addWays_6 (by decide +kernel) ?_
  refine J.icmp_leN g dX8_addWays_8 (tgt := 12) (by decide) (by omega) (by omega) (fun c_8 => ?_) (fun c_8 => absurd c_8 (by omega))
  refine J.iconstN g 0 dX8_addWays_12 ?_
  refine J.istore g dX8_addWays_13 rfl rfl ?_
  try dsimp only [List.set_cons_zero, List.set_cons_succ]
  have lp : ∀ (d : Nat) (i : Nat) (W1 : Nat → Nat → Nat), od - i < d → (i ≤ od) → (∀ x y, W1 x y = if x = k ∧ y < i then W x y + W (k - 1) (jpl od mf y (jop od af el)) else W x y) → J γ l x ([(sr, .inr (8, [.ref mq, .ref wq, .int (nI pn)])), (wq, .inl (γ.2 4, 13, .inr (.inr (.inr (.inr (fun i => some (ad i))))))), (gr, .inr (0, [.ref mk, .ref ag, .int (nI cd), .int (nI pt), .int (nI od), .int (nI ex)])), (mk, .inl (γ.2 1, 576, .inl (fun j => nI (mf j)))), (ag, .inl (γ.2 1, 24, .inl (fun j => nI (af j))))] ++ jrows γ ad 13 24 W1) [some (.ref sr), some (.ref gr), some (.int (nI k)), some (.int (nI el)), some (.int (nI i)), none] [] 0 0 15 := by
    intro d
    induction d with
    | zero => intro i W1 hm; exact absurd hm (Nat.not_lt_zero _)
    | succ d ih_lp =>
      intro i W1 hm hi hh
      refine J.iload g dX8_addWays_15 rfl ?_
      refine J.aload_n g dX8_addWays_17 rfl rfl ?_
      refine J.callV0 g (c_X0_order l γ _ _ _ _ _ _ _ _ _ ) jy_X0_order lm_X8_66 (q0 := 2) rfl jX0.1 ⟨⟨Nat.le_of_ble_eq_true rfl, Nat.le_of_ble_eq_true rfl⟩, Nat.le_of_ble_eq_true rfl, Nat.le_of_ble_eq_true rfl⟩ (Nat.le_of_ble_eq_true rfl) rfl [2, 3, 4] rfl rfl dX8_addWays_18 ?_
      intro _ _
      dsimp only [jpush]
      refine J.icmp_geN g dX8_addWays_21 (tgt := 82) (by decide) (by omega) (by omega) (fun c_21 => ?_) (fun c_21 => ?_)
      · exact J.vret g hE W1 rfl (by obtain rfl : i = od := (by omega); exact hh) rfl ⟨Nat.le_of_ble_eq_true rfl, Nat.le_of_ble_eq_true rfl⟩ dX8_addWays_82
      · refine J.iload g dX8_addWays_24 rfl ?_
        refine J.bipush (v := nI 24) g dX8_addWays_26 (by decide +kernel) ?_
        refine J.icmp_geN g dX8_addWays_28 (tgt := 82) (by decide) (by omega) (by omega) (fun c_28 => absurd c_28 (by have := hT.1; omega)) (fun c_28 => ?_)
        refine J.aload_n g dX8_addWays_31 rfl rfl ?_
        refine J.iload g dX8_addWays_32 rfl ?_
        refine J.aload_n g dX8_addWays_34 rfl rfl ?_
        refine J.iload_n g dX8_addWays_35 rfl rfl ?_
        refine J.callV0 g (c_X0_opposite l γ _ _ _ _ _ _ _ _ _ _ hT (by omega)) jy_X0_opposite lm_X8_56 (q0 := 2) rfl jX0.1 ⟨⟨Nat.le_of_ble_eq_true rfl, Nat.le_of_ble_eq_true rfl⟩, Nat.le_of_ble_eq_true rfl, Nat.le_of_ble_eq_true rfl⟩ (Nat.le_of_ble_eq_true rfl) rfl [2, 3, 4] rfl rfl dX8_addWays_36 ?_
        intro _ _
        dsimp only [jpush]
        refine J.callV0 g (c_X0_plus l γ _ _ _ _ _ _ _ _ _ _ _ hT (by have := hT.1; omega) (by have := jop_24 hT el; omega)) jy_X0_plus lm_X8_59 (q0 := 2) rfl jX0.1 ⟨⟨Nat.le_of_ble_eq_true rfl, Nat.le_of_ble_eq_true rfl⟩, Nat.le_of_ble_eq_true rfl, Nat.le_of_ble_eq_true rfl⟩ (Nat.le_of_ble_eq_true rfl) rfl [2, 3, 4] rfl rfl dX8_addWays_39 ?_
        intro _ _
        dsimp only [jpush]
        refine J.istore g dX8_addWays_42 rfl rfl ?_
        try dsimp only [List.set_cons_zero, List.set_cons_succ]
        refine J.aload_n g dX8_addWays_44 rfl rfl ?_
        refine J.iload g dX8_addWays_45 rfl ?_
        refine J.callV0 g (c_X0_has_n l γ _ _ _ _ _ _ _ _ _ _ hT.1 (by have := jpl_24 hT i (jop od af el); omega)) jy_X0_has lm_X8_69 (q0 := 2) rfl jX0.1 ⟨⟨Nat.le_of_ble_eq_true rfl, Nat.le_of_ble_eq_true rfl⟩, Nat.le_of_ble_eq_true rfl, Nat.le_of_ble_eq_true rfl⟩ (Nat.le_of_ble_eq_true rfl) rfl [2, 3, 4] rfl rfl dX8_addWays_47 ?_
        intro _ _
        dsimp only [jpush]
        refine J.if_eqB g dX8_addWays_50 (tgt := 76) (by decide) (fun c_50 => absurd c_50 (by simp; exact jpl_lt hT (by omega) _ _)) (fun c_50 => ?_)
        refine J.aload_n g dX8_addWays_53 rfl rfl ?_
        refine J.get g jX8 1 (by decide) lf_X8_16 0 rfl rfl dX8_addWays_54 ?_
        refine J.iload_n g dX8_addWays_57 rfl rfl ?_
        refine J.qaldK (r := ad k) g 1 4 rfl rfl rfl (by omega) (by decide) rfl dX8_addWays_58 ?_
        refine J.iload g dX8_addWays_59 rfl ?_
        refine J.dup2 g dX8_addWays_61 rfl rfl ?_
        refine J.ialdN (n := 24) g (5 + k) (jrows_get rfl (by omega)) (by have := hT.1; omega) (by decide) dX8_addWays_62 ?_
        refine J.aload_n g dX8_addWays_63 rfl rfl ?_
        refine J.get g jX8 1 (by decide) lf_X8_16 0 rfl rfl dX8_addWays_64 ?_
        refine J.iload_n g dX8_addWays_67 rfl rfl ?_
        refine J.iconstN g 1 dX8_addWays_68 ?_
        refine J.isubN g dX8_addWays_69 (by omega) ?_
        refine J.qaldK (r := ad (k - 1)) g 1 4 rfl rfl rfl (by omega) (by decide) rfl dX8_addWays_70 ?_
        refine J.iload g dX8_addWays_71 rfl ?_
        refine J.ialdN (n := 24) g (5 + (k - 1)) (jrows_get rfl (by omega)) (by have := jpl_24 hT i (jop od af el); omega) (by decide) dX8_addWays_73 ?_
        refine J.iaddN g dX8_addWays_74 ?_
        refine J.iastN (n := 24) g (5 + k) (jrows_get rfl (by omega)) (by have := hT.1; omega) (by decide) dX8_addWays_75 ?_
        refine J.eqws (jrows_set (b := 5) rfl (by omega)) ?_
        refine J.iincN g 1 dX8_addWays_76 rfl rfl ?_
        try dsimp only [List.set_cons_zero, List.set_cons_succ]
        refine J.goto g dX8_addWays_79 (tgt := 15) (by decide) ?_
        exact J.lvle (jle_s (jle_s (jle_s (jle_s (jle_s (jle_n jle_0)))))) (ih_lp (i + 1) _ (by omega) (by omega) (jaw_step (by omega) hh))
  exact J.lvle (jle_s (jle_s (jle_s (jle_s (jle_s (jle_n jle_0)))))) (lp _ 0 W (Nat.lt_succ_self _) (Nat.zero_le _) (fun x y => by rw [if_neg (by omega)]))
set_option maxHeartbeats 4000000 in
set_option maxRecDepth 100000 in
theorem c_X8_waysOf (l : Launch) (γ : jγ) (sr mq wq pn : Nat) (ad : Nat → Nat) (W : Nat → Nat → Nat) (gg k : Nat) (hg : gg < 24) (hk : k ≤ 12) : jM (S := Unit) l γ yX8_waysOf cX8_waysOf 5 (some .int) ({ frames := 0, cells := 0, slots := 0, locals := 0 } : Room) [.ref sr, .int (nI gg), .int (nI k)] ([(sr, .inr (8, [.ref mq, .ref wq, .int (nI pn)])), (wq, .inl (γ.2 4, 13, .inr (.inr (.inr (.inr (fun i => some (ad i)))))))] ++ jrows γ ad 13 24 W) (fun w0 => some (.int (nI (if 0 < k then W k gg else jws W gg 12)))) (fun w0 => ([(sr, .inr (8, [.ref mq, .ref wq, .int (nI pn)])), (wq, .inl (γ.2 4, 13, .inr (.inr (.inr (.inr (fun i => some (ad i)))))))] ++ jrows γ ad 13 24 W)) (fun w0 => True) := by
  refine jM.of [some (.ref sr), some (.int (nI gg)), some (.int (nI k)), none, none] rfl (Nat.le_of_ble_eq_true rfl) (by decide) ?_
  intro x g hE hin
  refine J.iload_n g dX8_waysOf_0 rfl rfl ?_
  refine J.if_ltN g dX8_waysOf_1 (tgt := 20) (by decide) (by omega) ?_
  refine J.iload_n g dX8_waysOf_4 rfl rfl ?_
  refine J.bipush (v := nI 24) g dX8_waysOf_5 (by decide +kernel) ?_
  refine J.icmp_geN g dX8_waysOf_7 (tgt := 20) (by decide) (by omega) (by omega) (fun c_7 => absurd c_7 (by omega)) (fun c_7 => ?_)
  refine J.iload_n g dX8_waysOf_10 rfl rfl ?_
  refine J.if_ltN g dX8_waysOf_11 (tgt := 20) (by decide) (by omega) ?_
  refine J.iload_n g dX8_waysOf_14 rfl rfl ?_
  refine J.bipush (v := nI 12) g dX8_waysOf_15 (by decide +kernel) ?_
  refine J.icmp_leN g dX8_waysOf_17 (tgt := 22) (by decide) (by omega) (by omega) (fun c_17 => ?_) (fun c_17 => absurd c_17 (by omega))
  refine J.iload_n g dX8_waysOf_22 rfl rfl ?_
  refine J.if_leN g dX8_waysOf_23 (tgt := 35) (by decide) (by omega) (fun c_23 => ?_) (fun c_23 => ?_)
  · refine J.iconstN g 0 dX8_waysOf_35 ?_
    refine J.istore_n g dX8_waysOf_36 rfl rfl rfl ?_
    try dsimp only [List.set_cons_zero, List.set_cons_succ]
    refine J.iconstN g 1 dX8_waysOf_37 ?_
    refine J.istore g dX8_waysOf_38 rfl rfl ?_
    try dsimp only [List.set_cons_zero, List.set_cons_succ]
    have lp : ∀ (d : Nat) (i : Nat), 13 - i < d → (1 ≤ i ∧ i ≤ 13) → J γ l x ([(sr, .inr (8, [.ref mq, .ref wq, .int (nI pn)])), (wq, .inl (γ.2 4, 13, .inr (.inr (.inr (.inr (fun i => some (ad i)))))))] ++ jrows γ ad 13 24 W) [some (.ref sr), some (.int (nI gg)), some (.int (nI k)), some (.int (nI (jws W gg (i - 1)))), some (.int (nI i))] [] 0 0 40 := by
      intro d
      induction d with
      | zero => intro i hm; exact absurd hm (Nat.not_lt_zero _)
      | succ d ih_lp =>
        intro i hm hi
        refine J.iload g dX8_waysOf_40 rfl ?_
        refine J.bipush (v := nI 12) g dX8_waysOf_42 (by decide +kernel) ?_
        refine J.icmp_gtN g dX8_waysOf_44 (tgt := 65) (by decide) (by omega) (by omega) (fun c_44 => ?_) (fun c_44 => ?_)
        · refine J.iload_n g dX8_waysOf_65 rfl rfl ?_
          exact J.iret g hE () (by rw [if_neg (by omega), show (12 : Nat) = i - 1 by omega]) trivial rfl ⟨Nat.le_of_ble_eq_true rfl, Nat.le_of_ble_eq_true rfl⟩ dX8_waysOf_66
        · refine J.iload_n g dX8_waysOf_47 rfl rfl ?_
          refine J.aload_n g dX8_waysOf_48 rfl rfl ?_
          refine J.get g jX8 1 (by decide) lf_X8_16 0 rfl rfl dX8_waysOf_49 ?_
          refine J.iload g dX8_waysOf_52 rfl ?_
          refine J.qaldK (r := ad i) g 1 4 rfl rfl rfl (by omega) (by decide) rfl dX8_waysOf_54 ?_
          refine J.iload_n g dX8_waysOf_55 rfl rfl ?_
          refine J.ialdN (n := 24) g (2 + i) (jrows_get rfl (by omega)) (by omega) (by decide) dX8_waysOf_56 ?_
          refine J.iaddN g dX8_waysOf_57 ?_
          refine J.istore_n g dX8_waysOf_58 rfl rfl rfl ?_
          try dsimp only [List.set_cons_zero, List.set_cons_succ]
          have hq : jws W gg (i + 1 - 1) = jws W gg (i - 1) + W i gg := by obtain ⟨z, rfl⟩ : ∃ z, i = z + 1 := ⟨i - 1, by omega⟩; rfl
          refine J.iincN g 1 dX8_waysOf_59 rfl rfl ?_
          try dsimp only [List.set_cons_zero, List.set_cons_succ]
          refine J.goto g dX8_waysOf_62 (tgt := 40) (by decide) ?_
          have ih2 := ih_lp (i + 1) (by omega) (by omega)
          rw [hq] at ih2
          exact J.lvle (jle_s (jle_s (jle_s (jle_s (jle_s jle_0))))) ih2
    exact J.lvle (jle_s (jle_s (jle_s (jle_s (jle_s jle_0))))) (lp _ 1 (Nat.lt_succ_self _) (by omega))
  · refine J.aload_n g dX8_waysOf_26 rfl rfl ?_
    refine J.get g jX8 1 (by decide) lf_X8_16 0 rfl rfl dX8_waysOf_27 ?_
    refine J.iload_n g dX8_waysOf_30 rfl rfl ?_
    refine J.qaldK (r := ad k) g 1 4 rfl rfl rfl (by omega) (by decide) rfl dX8_waysOf_31 ?_
    refine J.iload_n g dX8_waysOf_32 rfl rfl ?_
    refine J.ialdN (n := 24) g (2 + k) (jrows_get rfl (by omega)) (by omega) (by decide) dX8_waysOf_33 ?_
    exact J.iret g hE () (by rw [if_pos c_23]) trivial rfl ⟨Nat.le_of_ble_eq_true rfl, Nat.le_of_ble_eq_true rfl⟩ dX8_waysOf_34
set_option maxHeartbeats 4000000 in
set_option maxRecDepth 100000 in
theorem c_X8_countWays (l : Launch) (γ : jγ) (sr mq wq pn : Nat) (ad : Nat → Nat) (W : Nat → Nat → Nat) (a e n : Nat) (f : Nat → Nat) (gr mk ag cd pt od ex : Nat) (mf af : Nat → Nat) (hn : n ≤ 12) (hf : ∀ j, j < n → f j < 24) (hT : jtab od mf af) : jM (S := Nat → Nat → Nat) l γ yX8_countWays cX8_countWays 6 none ({ frames := 3, cells := 0, slots := 0, locals := 68 } : Room) [.ref sr, .ref gr, .ref a] ([(sr, .inr (8, [.ref mq, .ref wq, .int (nI pn)])), (wq, .inl (γ.2 4, 13, .inr (.inr (.inr (.inr (fun i => some (ad i))))))), (a, .inr (6, [.ref e, .int (nI n)])), (e, .inl (γ.2 0, 12, .inl (fun j => nI (f j)))), (gr, .inr (0, [.ref mk, .ref ag, .int (nI cd), .int (nI pt), .int (nI od), .int (nI ex)])), (mk, .inl (γ.2 1, 576, .inl (fun j => nI (mf j)))), (ag, .inl (γ.2 1, 24, .inl (fun j => nI (af j))))] ++ jrows γ ad 13 24 W) (fun u => none) (fun u => ([(sr, .inr (8, [.ref mq, .ref wq, .int (nI pn)])), (wq, .inl (γ.2 4, 13, .inr (.inr (.inr (.inr (fun i => some (ad i))))))), (a, .inr (6, [.ref e, .int (nI n)])), (e, .inl (γ.2 0, 12, .inl (fun j => nI (f j)))), (gr, .inr (0, [.ref mk, .ref ag, .int (nI cd), .int (nI pt), .int (nI od), .int (nI ex)])), (mk, .inl (γ.2 1, 576, .inl (fun j => nI (mf j)))), (ag, .inl (γ.2 1, 24, .inl (fun j => nI (af j))))] ++ jrows γ ad 13 24 u)) (fun u => ∀ k, k ≤ 12 → ∀ y, y < od → u k y = wsub od mf af f n k y) := by
  refine jM.of [some (.ref sr), some (.ref gr), some (.ref a), none, none, none] rfl (Nat.le_of_ble_eq_true rfl) (by decide) ?_
  intro x g hE hin
  have hT1 := hT.1
  refine J.iconstN g 0 dX8_countWays_0 ?_
  refine J.istore_n g dX8_countWays_1 rfl rfl rfl ?_
  try dsimp only [List.set_cons_zero, List.set_cons_succ]
  have lp : ∀ (d : Nat) (k : Nat) (W1 : Nat → Nat → Nat), 13 - k < d → (k ≤ 13) → (∀ x y, x < k → y < 24 → W1 x y = 0) → J γ l x ([(sr, .inr (8, [.ref mq, .ref wq, .int (nI pn)])), (wq, .inl (γ.2 4, 13, .inr (.inr (.inr (.inr (fun i => some (ad i))))))), (a, .inr (6, [.ref e, .int (nI n)])), (e, .inl (γ.2 0, 12, .inl (fun j => nI (f j)))), (gr, .inr (0, [.ref mk, .ref ag, .int (nI cd), .int (nI pt), .int (nI od), .int (nI ex)])), (mk, .inl (γ.2 1, 576, .inl (fun j => nI (mf j)))), (ag, .inl (γ.2 1, 24, .inl (fun j => nI (af j))))] ++ jrows γ ad 13 24 W1) [some (.ref sr), some (.ref gr), some (.ref a), some (.int (nI k)), none, none] [] 0 0 2 := by
    intro d
    induction d with
    | zero => intro k W1 hm; exact absurd hm (Nat.not_lt_zero _)
    | succ d ih_lp =>
      intro k W1 hm hi hh
      refine J.iload_n g dX8_countWays_2 rfl rfl ?_
      refine J.bipush (v := nI 12) g dX8_countWays_3 (by decide +kernel) ?_
      refine J.icmp_gtN g dX8_countWays_5 (tgt := 40) (by decide) (by omega) (by omega) (fun c_5 => ?_) (fun c_5 => ?_)
      · refine J.aload_n g dX8_countWays_40 rfl rfl ?_
        refine J.get g jX8 1 (by decide) lf_X8_16 0 rfl rfl dX8_countWays_41 ?_
        refine J.iconstN g 0 dX8_countWays_44 ?_
        refine J.qaldK (r := ad 0) g 1 4 rfl rfl rfl (by omega) (by decide) rfl dX8_countWays_45 ?_
        refine J.iconstN g 0 dX8_countWays_46 ?_
        refine J.iconstN g 1 dX8_countWays_47 ?_
        refine J.iastN (n := 24) g (7 + 0) (jrows_get rfl (by omega)) (by omega) (by decide) dX8_countWays_48 ?_
        refine J.eqws (jrows_set (b := 7) rfl (by omega)) ?_
        refine J.iconstN g 0 dX8_countWays_49 ?_
        refine J.istore_n g dX8_countWays_50 rfl rfl rfl ?_
        try dsimp only [List.set_cons_zero, List.set_cons_succ]
        have lr : ∀ (d : Nat) (i : Nat) (W3 : Nat → Nat → Nat), n - i < d → (i ≤ n) → (∀ k, k ≤ 12 → ∀ y, y < od → W3 k y = wsub od mf af f i k y) → J γ l x ([(sr, .inr (8, [.ref mq, .ref wq, .int (nI pn)])), (wq, .inl (γ.2 4, 13, .inr (.inr (.inr (.inr (fun i => some (ad i))))))), (a, .inr (6, [.ref e, .int (nI n)])), (e, .inl (γ.2 0, 12, .inl (fun j => nI (f j)))), (gr, .inr (0, [.ref mk, .ref ag, .int (nI cd), .int (nI pt), .int (nI od), .int (nI ex)])), (mk, .inl (γ.2 1, 576, .inl (fun j => nI (mf j)))), (ag, .inl (γ.2 1, 24, .inl (fun j => nI (af j))))] ++ jrows γ ad 13 24 W3) [some (.ref sr), some (.ref gr), some (.ref a), some (.int (nI i)), none, none] [] 0 0 51 := by
          intro d
          induction d with
          | zero => intro i W3 hm; exact absurd hm (Nat.not_lt_zero _)
          | succ d ih_lr =>
            intro i W3 hm hi3 h4
            refine J.iload_n g dX8_countWays_51 rfl rfl ?_
            refine J.aload_n g dX8_countWays_52 rfl rfl ?_
            refine J.callV0 g (c_X6_length l γ _ _ _ _ ) jy_X6_length lm_X8_23 (q0 := 2) rfl jX6.1 ⟨⟨Nat.le_of_ble_eq_true rfl, Nat.le_of_ble_eq_true rfl⟩, Nat.le_of_ble_eq_true rfl, Nat.le_of_ble_eq_true rfl⟩ (Nat.le_of_ble_eq_true rfl) rfl [2, 3] rfl rfl dX8_countWays_53 ?_
            intro _ _
            dsimp only [jpush]
            refine J.icmp_geN g dX8_countWays_56 (tgt := 104) (by decide) (by omega) (by omega) (fun c_56 => ?_) (fun c_56 => ?_)
            · exact J.vret g hE W3 rfl (by obtain rfl : i = n := (by omega); exact h4) rfl ⟨Nat.le_of_ble_eq_true rfl, Nat.le_of_ble_eq_true rfl⟩ dX8_countWays_104
            · refine J.iload_n g dX8_countWays_59 rfl rfl ?_
              refine J.bipush (v := nI 12) g dX8_countWays_60 (by decide +kernel) ?_
              refine J.icmp_geN g dX8_countWays_62 (tgt := 104) (by decide) (by omega) (by omega) (fun c_62 => absurd c_62 (by omega)) (fun c_62 => ?_)
              refine J.aload_n g dX8_countWays_65 rfl rfl ?_
              refine J.iload_n g dX8_countWays_66 rfl rfl ?_
              refine J.callV0 g (c_X6_elementAt_n l γ _ _ _ _ _ hn (by omega)) jy_X6_elementAt lm_X8_29 (q0 := 2) rfl jX6.1 ⟨⟨Nat.le_of_ble_eq_true rfl, Nat.le_of_ble_eq_true rfl⟩, Nat.le_of_ble_eq_true rfl, Nat.le_of_ble_eq_true rfl⟩ (Nat.le_of_ble_eq_true rfl) rfl [2, 3] rfl rfl dX8_countWays_67 ?_
              intro _ _
              dsimp only [jpush]
              refine J.istore g dX8_countWays_70 rfl rfl ?_
              try dsimp only [List.set_cons_zero, List.set_cons_succ]
              refine J.iload_n g dX8_countWays_72 rfl rfl ?_
              refine J.iconstN g 1 dX8_countWays_73 ?_
              refine J.iaddN g dX8_countWays_74 ?_
              refine J.istore g dX8_countWays_75 rfl rfl ?_
              try dsimp only [List.set_cons_zero, List.set_cons_succ]
              have ls : ∀ (d : Nat) (k : Nat) (W4 : Nat → Nat → Nat), k < d → (k ≤ i + 1) → (∀ x, x ≤ 12 → ∀ y, y < od → W4 x y = if k < x then wsub od mf af f (i + 1) x y else wsub od mf af f i x y) → J γ l x ([(sr, .inr (8, [.ref mq, .ref wq, .int (nI pn)])), (wq, .inl (γ.2 4, 13, .inr (.inr (.inr (.inr (fun i => some (ad i))))))), (a, .inr (6, [.ref e, .int (nI n)])), (e, .inl (γ.2 0, 12, .inl (fun j => nI (f j)))), (gr, .inr (0, [.ref mk, .ref ag, .int (nI cd), .int (nI pt), .int (nI od), .int (nI ex)])), (mk, .inl (γ.2 1, 576, .inl (fun j => nI (mf j)))), (ag, .inl (γ.2 1, 24, .inl (fun j => nI (af j))))] ++ jrows γ ad 13 24 W4) [some (.ref sr), some (.ref gr), some (.ref a), some (.int (nI i)), some (.int (nI (f i))), some (.int (nI k))] [] 0 0 77 := by
                intro d
                induction d with
                | zero => intro k W4 hm; exact absurd hm (Nat.not_lt_zero _)
                | succ d ih_ls =>
                  intro k W4 hm hk h5
                  refine J.iload g dX8_countWays_77 rfl ?_
                  refine J.iconstN g 1 dX8_countWays_79 ?_
                  refine J.icmp_ltN g dX8_countWays_80 (tgt := 98) (by decide) (by omega) (by omega) (fun c_80 => ?_) (fun c_80 => ?_)
                  · refine J.iincN g 1 dX8_countWays_98 rfl rfl ?_
                    try dsimp only [List.set_cons_zero, List.set_cons_succ]
                    refine J.goto g dX8_countWays_101 (tgt := 51) (by decide) ?_
                    exact J.lvle (jle_s (jle_s (jle_s (jle_s (jle_n (jle_n jle_0)))))) (ih_lr (i + 1) W4 (by omega) (by omega) (fun k hk y hy => by rw [h5 k hk y hy]; rcases Nat.eq_zero_or_pos k with z | z; (· subst z; rw [if_neg (by omega)]; rfl); (· rw [if_pos (by omega)])))
                  · refine J.aload_n g dX8_countWays_83 rfl rfl ?_
                    refine J.aload_n g dX8_countWays_84 rfl rfl ?_
                    refine J.iload g dX8_countWays_85 rfl ?_
                    refine J.iload g dX8_countWays_87 rfl ?_
                    refine J.callV g (c_X8_addWays l γ _ _ _ _ _ _ _ _ _ _ _ _ _ _ _ _ _ hT (by omega) (hf i (by omega))) jy_X8_addWays lm_X8_62 (q0 := 0) rfl jX8.1 ⟨⟨Nat.le_of_ble_eq_true rfl, Nat.le_of_ble_eq_true rfl⟩, Nat.le_of_ble_eq_true rfl, Nat.le_of_ble_eq_true rfl⟩ (Nat.le_of_ble_eq_true rfl) rfl [0, 1, 4, 5, 6, 7, 8, 9, 10, 11, 12, 13, 14, 15, 16, 17, 18, 19] rfl (fun _ => rfl) rfl dX8_countWays_89 ?_
                    intro u_89 h_89
                    dsimp only [jput, List.set_cons_zero, List.set_cons_succ, Option.toList, List.append, List.cons_append, List.nil_append, List.append_nil]
                    refine J.idecN g dX8_countWays_92 rfl rfl (by omega) ?_
                    try dsimp only [List.set_cons_zero, List.set_cons_succ]
                    refine J.goto g dX8_countWays_95 (tgt := 77) (by decide) ?_
                    exact J.lvle (jle_s (jle_s (jle_s (jle_s (jle_s (jle_s jle_0)))))) (ih_ls (k - 1) u_89 (by omega) (by omega) (jcw_step (by omega) hT hi3 (by omega) h5 h_89))
              exact J.lvle (jle_s (jle_s (jle_s (jle_s (jle_s (jle_s jle_0)))))) (ls _ (i + 1) W3 (Nat.lt_succ_self _) (Nat.le_refl _) (fun x hx y hy => by rw [h4 x hx y hy]; by_cases z : i + 1 < x; (· rw [if_pos z, wsub_0 (by omega), wsub_0 (by omega)]); (· rw [if_neg z])))
        exact J.lvle (jle_s (jle_s (jle_s (jle_s (jle_n (jle_n jle_0)))))) (lr _ 0 (jm2 W1 0 0 1) (Nat.lt_succ_self _) (by omega) (fun k hk y hy => jws_init (fun x y hx hy => hh x y (by omega) (by omega)) k hk y (by omega)))
      · refine J.iconstN g 0 dX8_countWays_8 ?_
        refine J.istore g dX8_countWays_9 rfl rfl ?_
        try dsimp only [List.set_cons_zero, List.set_cons_succ]
        have lq : ∀ (d : Nat) (i : Nat) (W2 : Nat → Nat → Nat), 24 - i < d → (i ≤ 24) → (∀ x y, x < k → y < 24 → W2 x y = 0) → (∀ y, y < i → W2 k y = 0) → J γ l x ([(sr, .inr (8, [.ref mq, .ref wq, .int (nI pn)])), (wq, .inl (γ.2 4, 13, .inr (.inr (.inr (.inr (fun i => some (ad i))))))), (a, .inr (6, [.ref e, .int (nI n)])), (e, .inl (γ.2 0, 12, .inl (fun j => nI (f j)))), (gr, .inr (0, [.ref mk, .ref ag, .int (nI cd), .int (nI pt), .int (nI od), .int (nI ex)])), (mk, .inl (γ.2 1, 576, .inl (fun j => nI (mf j)))), (ag, .inl (γ.2 1, 24, .inl (fun j => nI (af j))))] ++ jrows γ ad 13 24 W2) [some (.ref sr), some (.ref gr), some (.ref a), some (.int (nI k)), some (.int (nI i)), none] [] 0 0 11 := by
          intro d
          induction d with
          | zero => intro i W2 hm; exact absurd hm (Nat.not_lt_zero _)
          | succ d ih_lq =>
            intro i W2 hm hi2 h2 h3
            refine J.iload g dX8_countWays_11 rfl ?_
            refine J.bipush (v := nI 24) g dX8_countWays_13 (by decide +kernel) ?_
            refine J.icmp_geN g dX8_countWays_15 (tgt := 34) (by decide) (by omega) (by omega) (fun c_15 => ?_) (fun c_15 => ?_)
            · refine J.iincN g 1 dX8_countWays_34 rfl rfl ?_
              try dsimp only [List.set_cons_zero, List.set_cons_succ]
              refine J.goto g dX8_countWays_37 (tgt := 2) (by decide) ?_
              exact J.lvle (jle_s (jle_s (jle_s (jle_s (jle_n (jle_n jle_0)))))) (ih_lp (k + 1) W2 (by omega) (by omega) (fun x y hx hy => by rcases Nat.lt_or_ge x k with z | z; (· exact h2 x y z hy); (· obtain rfl : x = k := (by omega); exact h3 y (by omega))))
            · refine J.aload_n g dX8_countWays_18 rfl rfl ?_
              refine J.get g jX8 1 (by decide) lf_X8_16 0 rfl rfl dX8_countWays_19 ?_
              refine J.iload_n g dX8_countWays_22 rfl rfl ?_
              refine J.qaldK (r := ad k) g 1 4 rfl rfl rfl (by omega) (by decide) rfl dX8_countWays_23 ?_
              refine J.iload g dX8_countWays_24 rfl ?_
              refine J.iconstN g 0 dX8_countWays_26 ?_
              refine J.iastN (n := 24) g (7 + k) (jrows_get rfl (by omega)) (by omega) (by decide) dX8_countWays_27 ?_
              refine J.eqws (jrows_set (b := 7) rfl (by omega)) ?_
              refine J.iincN g 1 dX8_countWays_28 rfl rfl ?_
              try dsimp only [List.set_cons_zero, List.set_cons_succ]
              refine J.goto g dX8_countWays_31 (tgt := 11) (by decide) ?_
              exact J.lvle (jle_s (jle_s (jle_s (jle_s (jle_s (jle_n jle_0)))))) (ih_lq (i + 1) _ (by omega) (by omega) (fun x y hx hy => (jm2_ne (Or.inl (by omega))).trans (h2 x y hx hy)) (lt_s (fun y hy => (jm2_ne (Or.inr (by omega))).trans (h3 y hy)) jm2_at))
        exact J.lvle (jle_s (jle_s (jle_s (jle_s (jle_s (jle_n jle_0)))))) (lq _ 0 W1 (Nat.lt_succ_self _) (by omega) hh (fun y h => absurd h (Nat.not_lt_zero _)))
  exact J.lvle (jle_s (jle_s (jle_s (jle_s (jle_n (jle_n jle_0)))))) (lp _ 0 W (Nat.lt_succ_self _) (by omega) (fun x y h => absurd h (Nat.not_lt_zero _)))
