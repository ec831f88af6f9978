set_option maxHeartbeats 4000000 in
set_option maxRecDepth 100000 in
theorem c_X10_sort_no (l : Launch) (γ : jγ) (ns tp rd gr rw tr oo pa iq sr sgn pp mu : Nat) (dsd : Int32) (rwe n : Nat) (f : Nat → Nat) (ooe oon : Nat) (oof : Nat → Nat) (rq nx pl : Nat) (ra re ln : Nat → Nat) (rf : Nat → Nat → Nat) (hx : nx < 8) (hp : pl ≤ 8) (hn : n ≤ 12) (hf : ∀ j, j < n → f j < 24) (he : jels f (jsrt f (n - 1)) n = 0) : jM (S := (Nat → Nat) × (Nat → Nat) × (Nat → Nat)) l γ yX10_sort cX10_sort 3 (some .int) ({ frames := 2, cells := 0, slots := 0, locals := 46 } : Room) [.ref ns] [(ns, .inr (10, [.ref tp, .ref rd, .ref gr, .ref rw, .ref tr, .ref oo, .ref pa, .ref iq, .ref sr, .ref sgn, .ref pp, .ref mu, .int dsd])), (rw, .inr (6, [.ref rwe, .int (nI n)])), (rwe, .inl (γ.2 0, 12, .inl (fun j => nI (f j)))), (oo, .inr (6, [.ref ooe, .int (nI oon)])), (ooe, .inl (γ.2 0, 12, .inl (fun j => nI (oof j)))), (pa, .inr (4, [.ref rq, .int (nI nx), .int (nI pl)])), (rq, .inl (γ.2 5, 8, .inr (.inr (.inr (.inr (fun i => some (ra i))))))), ((ra 0), .inr (6, [.ref (re 0), .int (nI (ln 0))])), ((re 0), .inl (γ.2 0, 12, .inl (fun j => nI ((rf 0) j)))), ((ra 1), .inr (6, [.ref (re 1), .int (nI (ln 1))])), ((re 1), .inl (γ.2 0, 12, .inl (fun j => nI ((rf 1) j)))), ((ra 2), .inr (6, [.ref (re 2), .int (nI (ln 2))])), ((re 2), .inl (γ.2 0, 12, .inl (fun j => nI ((rf 2) j)))), ((ra 3), .inr (6, [.ref (re 3), .int (nI (ln 3))])), ((re 3), .inl (γ.2 0, 12, .inl (fun j => nI ((rf 3) j)))), ((ra 4), .inr (6, [.ref (re 4), .int (nI (ln 4))])), ((re 4), .inl (γ.2 0, 12, .inl (fun j => nI ((rf 4) j)))), ((ra 5), .inr (6, [.ref (re 5), .int (nI (ln 5))])), ((re 5), .inl (γ.2 0, 12, .inl (fun j => nI ((rf 5) j)))), ((ra 6), .inr (6, [.ref (re 6), .int (nI (ln 6))])), ((re 6), .inl (γ.2 0, 12, .inl (fun j => nI ((rf 6) j)))), ((ra 7), .inr (6, [.ref (re 7), .int (nI (ln 7))])), ((re 7), .inl (γ.2 0, 12, .inl (fun j => nI ((rf 7) j))))] (fun u => some (.int (nI (jels f (jsrt f (n - 1)) n)))) (fun u => [(ns, .inr (10, [.ref tp, .ref rd, .ref gr, .ref rw, .ref tr, .ref oo, .ref pa, .ref iq, .ref sr, .ref sgn, .ref pp, .ref mu, .int dsd])), (rw, .inr (6, [.ref rwe, .int (nI n)])), (rwe, .inl (γ.2 0, 12, .inl (fun j => nI (f j)))), (oo, .inr (6, [.ref ooe, .int (nI n)])), (ooe, .inl (γ.2 0, 12, .inl (fun j => nI (u.1 j)))), (pa, .inr (4, [.ref rq, .int (nI nx), .int (nI pl)])), (rq, .inl (γ.2 5, 8, .inr (.inr (.inr (.inr (fun i => some (ra i))))))), ((ra 0), .inr (6, [.ref (re 0), .int (nI (ln 0))])), ((re 0), .inl (γ.2 0, 12, .inl (fun j => nI ((rf 0) j)))), ((ra 1), .inr (6, [.ref (re 1), .int (nI (ln 1))])), ((re 1), .inl (γ.2 0, 12, .inl (fun j => nI ((rf 1) j)))), ((ra 2), .inr (6, [.ref (re 2), .int (nI (ln 2))])), ((re 2), .inl (γ.2 0, 12, .inl (fun j => nI ((rf 2) j)))), ((ra 3), .inr (6, [.ref (re 3), .int (nI (ln 3))])), ((re 3), .inl (γ.2 0, 12, .inl (fun j => nI ((rf 3) j)))), ((ra 4), .inr (6, [.ref (re 4), .int (nI (ln 4))])), ((re 4), .inl (γ.2 0, 12, .inl (fun j => nI ((rf 4) j)))), ((ra 5), .inr (6, [.ref (re 5), .int (nI (ln 5))])), ((re 5), .inl (γ.2 0, 12, .inl (fun j => nI ((rf 5) j)))), ((ra 6), .inr (6, [.ref (re 6), .int (nI (ln 6))])), ((re 6), .inl (γ.2 0, 12, .inl (fun j => nI ((rf 6) j)))), ((ra 7), .inr (6, [.ref (re 7), .int (nI (ln 7))])), ((re 7), .inl (γ.2 0, 12, .inl (fun j => nI ((rf 7) j))))]) (fun u => True) := by
  refine jM.of [some (.ref ns), none, none] rfl (Nat.le_of_ble_eq_true rfl) (by decide) ?_
  intro x g hE hin
  have hle := jels_le (f := f) (g := jsrt f (n - 1)) n
  refine J.aload_n g dX10_sort_0 rfl rfl ?_
  refine J.get g jX10 5 (by decide) lf_X10_40 0 rfl rfl dX10_sort_1 ?_
  refine J.aload_n g dX10_sort_4 rfl rfl ?_
  refine J.get g jX10 3 (by decide) lf_X10_33 0 rfl rfl dX10_sort_5 ?_
  refine J.callV g (c_X6_copyFrom l γ _ _ _ _ _ _ _ _ hn) jy_X6_copyFrom lm_X10_122 (q0 := 3) rfl jX6.1 ⟨⟨Nat.le_of_ble_eq_true rfl, Nat.le_of_ble_eq_true rfl⟩, Nat.le_of_ble_eq_true rfl, Nat.le_of_ble_eq_true rfl⟩ (Nat.le_of_ble_eq_true rfl) rfl [3, 4, 1, 2] rfl (fun _ => rfl) rfl dX10_sort_8 ?_
  intro u_8 h_8
  dsimp only [jput, List.set_cons_zero, List.set_cons_succ, Option.toList, List.append, List.cons_append, List.nil_append, List.append_nil]
  refine J.aload_n g dX10_sort_11 rfl rfl ?_
  refine J.get g jX10 5 (by decide) lf_X10_40 0 rfl rfl dX10_sort_12 ?_
  refine J.callV g (c_X6_putInOrder l γ _ _ _ _ hn (fun j hj => by rw [h_8 j hj]; exact hf j hj)) jy_X6_putInOrder lm_X10_233 (q0 := 3) rfl jX6.1 ⟨⟨Nat.le_of_ble_eq_true rfl, Nat.le_of_ble_eq_true rfl⟩, Nat.le_of_ble_eq_true rfl, Nat.le_of_ble_eq_true rfl⟩ (Nat.le_of_ble_eq_true rfl) rfl [3, 4] rfl (fun _ => rfl) rfl dX10_sort_15 ?_
  intro _ _
  dsimp only [jput, List.set_cons_zero, List.set_cons_succ, Option.toList, List.append, List.cons_append, List.nil_append, List.append_nil]
  obtain ⟨gs, hgs⟩ : ∃ z, z = jsrt u_8 (n - 1) := ⟨_, rfl⟩
  rw [← hgs]
  have hs : ∀ j, j < n → gs j = jsrt f (n - 1) j := fun j hj => by rw [hgs]; exact jsrt_congr1 h_8 j hj
  have hs24 : ∀ j, j < n → gs j < 24 := fun j hj => by rw [hs j hj]; exact jsrt_24 hf (n - 1) (by omega) j hj
  refine J.iconstN g 0 dX10_sort_18 ?_
  refine J.istore_n g dX10_sort_19 rfl rfl rfl ?_
  try dsimp only [List.set_cons_zero, List.set_cons_succ]
  refine J.iconstN g 0 dX10_sort_20 ?_
  refine J.istore_n g dX10_sort_21 rfl rfl rfl ?_
  try dsimp only [List.set_cons_zero, List.set_cons_succ]
  have lp : ∀ (d : Nat) (i : Nat), n - i < d → (i ≤ n) → J γ l x [(ns, .inr (10, [.ref tp, .ref rd, .ref gr, .ref rw, .ref tr, .ref oo, .ref pa, .ref iq, .ref sr, .ref sgn, .ref pp, .ref mu, .int dsd])), (rw, .inr (6, [.ref rwe, .int (nI n)])), (rwe, .inl (γ.2 0, 12, .inl (fun j => nI (f j)))), (oo, .inr (6, [.ref ooe, .int (nI n)])), (ooe, .inl (γ.2 0, 12, .inl (fun j => nI (gs j)))), (pa, .inr (4, [.ref rq, .int (nI nx), .int (nI pl)])), (rq, .inl (γ.2 5, 8, .inr (.inr (.inr (.inr (fun i => some (ra i))))))), ((ra 0), .inr (6, [.ref (re 0), .int (nI (ln 0))])), ((re 0), .inl (γ.2 0, 12, .inl (fun j => nI ((rf 0) j)))), ((ra 1), .inr (6, [.ref (re 1), .int (nI (ln 1))])), ((re 1), .inl (γ.2 0, 12, .inl (fun j => nI ((rf 1) j)))), ((ra 2), .inr (6, [.ref (re 2), .int (nI (ln 2))])), ((re 2), .inl (γ.2 0, 12, .inl (fun j => nI ((rf 2) j)))), ((ra 3), .inr (6, [.ref (re 3), .int (nI (ln 3))])), ((re 3), .inl (γ.2 0, 12, .inl (fun j => nI ((rf 3) j)))), ((ra 4), .inr (6, [.ref (re 4), .int (nI (ln 4))])), ((re 4), .inl (γ.2 0, 12, .inl (fun j => nI ((rf 4) j)))), ((ra 5), .inr (6, [.ref (re 5), .int (nI (ln 5))])), ((re 5), .inl (γ.2 0, 12, .inl (fun j => nI ((rf 5) j)))), ((ra 6), .inr (6, [.ref (re 6), .int (nI (ln 6))])), ((re 6), .inl (γ.2 0, 12, .inl (fun j => nI ((rf 6) j)))), ((ra 7), .inr (6, [.ref (re 7), .int (nI (ln 7))])), ((re 7), .inl (γ.2 0, 12, .inl (fun j => nI ((rf 7) j))))] [some (.ref ns), some (.int (nI (jels f (jsrt f (n - 1)) i))), some (.int (nI i))] [] 0 0 22 := by
    intro d
    induction d with
    | zero => intro i hm; exact absurd hm (Nat.not_lt_zero _)
    | succ d ih_lp =>
      intro i hm hi
      refine J.iload_n g dX10_sort_22 rfl rfl ?_
      refine J.aload_n g dX10_sort_23 rfl rfl ?_
      refine J.get g jX10 3 (by decide) lf_X10_33 0 rfl rfl dX10_sort_24 ?_
      refine J.callV0 g (c_X6_length l γ _ _ _ _ ) jy_X6_length lm_X10_144 (q0 := 1) rfl jX6.1 ⟨⟨Nat.le_of_ble_eq_true rfl, Nat.le_of_ble_eq_true rfl⟩, Nat.le_of_ble_eq_true rfl, Nat.le_of_ble_eq_true rfl⟩ (Nat.le_of_ble_eq_true rfl) rfl [1, 2] rfl rfl dX10_sort_27 ?_
      intro _ _
      dsimp only [jpush]
      refine J.icmp_geN g dX10_sort_30 (tgt := 61) (by decide) (by omega) (by omega) (fun c_30 => ?_) (fun c_30 => ?_)
      · obtain rfl : i = n := by omega
        refine J.iload_n g dX10_sort_61 rfl rfl ?_
        refine J.if_leN g dX10_sort_62 (tgt := 87) (by decide) (by omega) (fun c_62 => ?_) (fun c_62 => absurd c_62 (by omega))
        refine J.iload_n g dX10_sort_87 rfl rfl ?_
        exact J.iret g hE (gs, f, f) rfl trivial rfl ⟨Nat.le_of_ble_eq_true rfl, Nat.le_of_ble_eq_true rfl⟩ dX10_sort_88
      · refine J.aload_n g dX10_sort_33 rfl rfl ?_
        refine J.get g jX10 5 (by decide) lf_X10_40 0 rfl rfl dX10_sort_34 ?_
        refine J.iload_n g dX10_sort_37 rfl rfl ?_
        refine J.callV0 g (c_X6_elementAt_n l γ _ _ _ _ _ hn (by omega)) jy_X6_elementAt lm_X10_153 (q0 := 3) rfl jX6.1 ⟨⟨Nat.le_of_ble_eq_true rfl, Nat.le_of_ble_eq_true rfl⟩, Nat.le_of_ble_eq_true rfl, Nat.le_of_ble_eq_true rfl⟩ (Nat.le_of_ble_eq_true rfl) rfl [3, 4] rfl rfl dX10_sort_38 ?_
        intro _ _
        dsimp only [jpush]
        refine J.aload_n g dX10_sort_41 rfl rfl ?_
        refine J.get g jX10 3 (by decide) lf_X10_33 0 rfl rfl dX10_sort_42 ?_
        refine J.iload_n g dX10_sort_45 rfl rfl ?_
        refine J.callV0 g (c_X6_elementAt_n l γ _ _ _ _ _ hn (by omega)) jy_X6_elementAt lm_X10_153 (q0 := 1) rfl jX6.1 ⟨⟨Nat.le_of_ble_eq_true rfl, Nat.le_of_ble_eq_true rfl⟩, Nat.le_of_ble_eq_true rfl, Nat.le_of_ble_eq_true rfl⟩ (Nat.le_of_ble_eq_true rfl) rfl [1, 2] rfl rfl dX10_sort_46 ?_
        intro _ _
        dsimp only [jpush]
        refine J.icmp_eqN g dX10_sort_49 (tgt := 55) (by decide) (by have := hs24 i (by omega); omega) (by have := hf i (by omega); omega) (fun c_49 => ?_) (fun c_49 => ?_)
        · have hq : jels f (jsrt f (n - 1)) (i + 1) = jels f (jsrt f (n - 1)) i := jels_e (by rw [← hs i (by omega)]; exact c_49)
          refine J.iincN g 1 dX10_sort_55 rfl rfl ?_
          try dsimp only [List.set_cons_zero, List.set_cons_succ]
          refine J.goto g dX10_sort_58 (tgt := 22) (by decide) ?_
          have ih2 := ih_lp (i + 1) (by omega) (by omega)
          rw [hq] at ih2
          exact J.lvle (jle_s (jle_s (jle_s jle_0))) ih2
        · have hq : jels f (jsrt f (n - 1)) (i + 1) = jels f (jsrt f (n - 1)) i + 1 := jels_n (by rw [← hs i (by omega)]; exact c_49)
          refine J.iincN g 1 dX10_sort_52 rfl rfl ?_
          try dsimp only [List.set_cons_zero, List.set_cons_succ]
          refine J.iincN g 1 dX10_sort_55 rfl rfl ?_
          try dsimp only [List.set_cons_zero, List.set_cons_succ]
          refine J.goto g dX10_sort_58 (tgt := 22) (by decide) ?_
          have ih2 := ih_lp (i + 1) (by omega) (by omega)
          rw [hq] at ih2
          exact J.lvle (jle_s (jle_s (jle_s jle_0))) ih2
  exact J.lvle (jle_s (jle_s (jle_s jle_0))) (lp _ 0 (Nat.lt_succ_self _) (Nat.zero_le _))
set_option maxHeartbeats 4000000 in
set_option maxRecDepth 100000 in
theorem c_X10_sort_yes (l : Launch) (γ : jγ) (ns tp rd gr rw tr oo pa iq sr sgn pp mu : Nat) (dsd : Int32) (rwe n : Nat) (f : Nat → Nat) (ooe oon : Nat) (oof : Nat → Nat) (rq nx pl : Nat) (ra re ln : Nat → Nat) (rf : Nat → Nat → Nat) (hx : nx < 8) (hp : pl ≤ 8) (hn : n ≤ 12) (hf : ∀ j, j < n → f j < 24) (he : ¬ jels f (jsrt f (n - 1)) n = 0) : jM (S := (Nat → Nat) × (Nat → Nat) × (Nat → Nat)) l γ yX10_sort cX10_sort 3 (some .int) ({ frames := 2, cells := 0, slots := 0, locals := 46 } : Room) [.ref ns] [(ns, .inr (10, [.ref tp, .ref rd, .ref gr, .ref rw, .ref tr, .ref oo, .ref pa, .ref iq, .ref sr, .ref sgn, .ref pp, .ref mu, .int dsd])), (rw, .inr (6, [.ref rwe, .int (nI n)])), (rwe, .inl (γ.2 0, 12, .inl (fun j => nI (f j)))), (oo, .inr (6, [.ref ooe, .int (nI oon)])), (ooe, .inl (γ.2 0, 12, .inl (fun j => nI (oof j)))), (pa, .inr (4, [.ref rq, .int (nI nx), .int (nI pl)])), (rq, .inl (γ.2 5, 8, .inr (.inr (.inr (.inr (fun i => some (ra i))))))), ((ra 0), .inr (6, [.ref (re 0), .int (nI (ln 0))])), ((re 0), .inl (γ.2 0, 12, .inl (fun j => nI ((rf 0) j)))), ((ra 1), .inr (6, [.ref (re 1), .int (nI (ln 1))])), ((re 1), .inl (γ.2 0, 12, .inl (fun j => nI ((rf 1) j)))), ((ra 2), .inr (6, [.ref (re 2), .int (nI (ln 2))])), ((re 2), .inl (γ.2 0, 12, .inl (fun j => nI ((rf 2) j)))), ((ra 3), .inr (6, [.ref (re 3), .int (nI (ln 3))])), ((re 3), .inl (γ.2 0, 12, .inl (fun j => nI ((rf 3) j)))), ((ra 4), .inr (6, [.ref (re 4), .int (nI (ln 4))])), ((re 4), .inl (γ.2 0, 12, .inl (fun j => nI ((rf 4) j)))), ((ra 5), .inr (6, [.ref (re 5), .int (nI (ln 5))])), ((re 5), .inl (γ.2 0, 12, .inl (fun j => nI ((rf 5) j)))), ((ra 6), .inr (6, [.ref (re 6), .int (nI (ln 6))])), ((re 6), .inl (γ.2 0, 12, .inl (fun j => nI ((rf 6) j)))), ((ra 7), .inr (6, [.ref (re 7), .int (nI (ln 7))])), ((re 7), .inl (γ.2 0, 12, .inl (fun j => nI ((rf 7) j))))] (fun u => some (.int (nI (jels f (jsrt f (n - 1)) n)))) (fun u => [(ns, .inr (10, [.ref tp, .ref rd, .ref gr, .ref rw, .ref tr, .ref oo, .ref pa, .ref iq, .ref sr, .ref sgn, .ref pp, .ref mu, .int dsd])), (rw, .inr (6, [.ref rwe, .int (nI n)])), (rwe, .inl (γ.2 0, 12, .inl (fun j => nI (u.2.1 j)))), (oo, .inr (6, [.ref ooe, .int (nI n)])), (ooe, .inl (γ.2 0, 12, .inl (fun j => nI (u.1 j)))), (pa, .inr (4, [.ref rq, .int (nI (if nx + 1 < 8 then nx + 1 else 0)), .int (nI (if 8 < pl + 1 then 8 else pl + 1))])), (rq, .inl (γ.2 5, 8, .inr (.inr (.inr (.inr (fun i => some (ra i))))))), ((ra 0), .inr (6, [.ref (re 0), .int (nI ((va_up ln nx n) 0))])), ((re 0), .inl (γ.2 0, 12, .inl (fun j => nI (((va_up rf nx u.2.2) 0) j)))), ((ra 1), .inr (6, [.ref (re 1), .int (nI ((va_up ln nx n) 1))])), ((re 1), .inl (γ.2 0, 12, .inl (fun j => nI (((va_up rf nx u.2.2) 1) j)))), ((ra 2), .inr (6, [.ref (re 2), .int (nI ((va_up ln nx n) 2))])), ((re 2), .inl (γ.2 0, 12, .inl (fun j => nI (((va_up rf nx u.2.2) 2) j)))), ((ra 3), .inr (6, [.ref (re 3), .int (nI ((va_up ln nx n) 3))])), ((re 3), .inl (γ.2 0, 12, .inl (fun j => nI (((va_up rf nx u.2.2) 3) j)))), ((ra 4), .inr (6, [.ref (re 4), .int (nI ((va_up ln nx n) 4))])), ((re 4), .inl (γ.2 0, 12, .inl (fun j => nI (((va_up rf nx u.2.2) 4) j)))), ((ra 5), .inr (6, [.ref (re 5), .int (nI ((va_up ln nx n) 5))])), ((re 5), .inl (γ.2 0, 12, .inl (fun j => nI (((va_up rf nx u.2.2) 5) j)))), ((ra 6), .inr (6, [.ref (re 6), .int (nI ((va_up ln nx n) 6))])), ((re 6), .inl (γ.2 0, 12, .inl (fun j => nI (((va_up rf nx u.2.2) 6) j)))), ((ra 7), .inr (6, [.ref (re 7), .int (nI ((va_up ln nx n) 7))])), ((re 7), .inl (γ.2 0, 12, .inl (fun j => nI (((va_up rf nx u.2.2) 7) j))))]) (fun u => (∀ j, j < n → u.2.1 j = jsrt f (n - 1) j) ∧ ∀ j, j < n → u.2.2 j = f j) := by
  refine jM.of [some (.ref ns), none, none] rfl (Nat.le_of_ble_eq_true rfl) (by decide) ?_
  intro x g hE hin
  have hle := jels_le (f := f) (g := jsrt f (n - 1)) n
  refine J.aload_n g dX10_sort_0 rfl rfl ?_
  refine J.get g jX10 5 (by decide) lf_X10_40 0 rfl rfl dX10_sort_1 ?_
  refine J.aload_n g dX10_sort_4 rfl rfl ?_
  refine J.get g jX10 3 (by decide) lf_X10_33 0 rfl rfl dX10_sort_5 ?_
  refine J.callV g (c_X6_copyFrom l γ _ _ _ _ _ _ _ _ hn) jy_X6_copyFrom lm_X10_122 (q0 := 3) rfl jX6.1 ⟨⟨Nat.le_of_ble_eq_true rfl, Nat.le_of_ble_eq_true rfl⟩, Nat.le_of_ble_eq_true rfl, Nat.le_of_ble_eq_true rfl⟩ (Nat.le_of_ble_eq_true rfl) rfl [3, 4, 1, 2] rfl (fun _ => rfl) rfl dX10_sort_8 ?_
  intro u_8 h_8
  dsimp only [jput, List.set_cons_zero, List.set_cons_succ, Option.toList, List.append, List.cons_append, List.nil_append, List.append_nil]
  refine J.aload_n g dX10_sort_11 rfl rfl ?_
  refine J.get g jX10 5 (by decide) lf_X10_40 0 rfl rfl dX10_sort_12 ?_
  refine J.callV g (c_X6_putInOrder l γ _ _ _ _ hn (fun j hj => by rw [h_8 j hj]; exact hf j hj)) jy_X6_putInOrder lm_X10_233 (q0 := 3) rfl jX6.1 ⟨⟨Nat.le_of_ble_eq_true rfl, Nat.le_of_ble_eq_true rfl⟩, Nat.le_of_ble_eq_true rfl, Nat.le_of_ble_eq_true rfl⟩ (Nat.le_of_ble_eq_true rfl) rfl [3, 4] rfl (fun _ => rfl) rfl dX10_sort_15 ?_
  intro _ _
  dsimp only [jput, List.set_cons_zero, List.set_cons_succ, Option.toList, List.append, List.cons_append, List.nil_append, List.append_nil]
  obtain ⟨gs, hgs⟩ : ∃ z, z = jsrt u_8 (n - 1) := ⟨_, rfl⟩
  rw [← hgs]
  have hs : ∀ j, j < n → gs j = jsrt f (n - 1) j := fun j hj => by rw [hgs]; exact jsrt_congr1 h_8 j hj
  have hs24 : ∀ j, j < n → gs j < 24 := fun j hj => by rw [hs j hj]; exact jsrt_24 hf (n - 1) (by omega) j hj
  refine J.iconstN g 0 dX10_sort_18 ?_
  refine J.istore_n g dX10_sort_19 rfl rfl rfl ?_
  try dsimp only [List.set_cons_zero, List.set_cons_succ]
  refine J.iconstN g 0 dX10_sort_20 ?_
  refine J.istore_n g dX10_sort_21 rfl rfl rfl ?_
  try dsimp only [List.set_cons_zero, List.set_cons_succ]
  have lp : ∀ (d : Nat) (i : Nat), n - i < d → (i ≤ n) → J γ l x [(ns, .inr (10, [.ref tp, .ref rd, .ref gr, .ref rw, .ref tr, .ref oo, .ref pa, .ref iq, .ref sr, .ref sgn, .ref pp, .ref mu, .int dsd])), (rw, .inr (6, [.ref rwe, .int (nI n)])), (rwe, .inl (γ.2 0, 12, .inl (fun j => nI (f j)))), (oo, .inr (6, [.ref ooe, .int (nI n)])), (ooe, .inl (γ.2 0, 12, .inl (fun j => nI (gs j)))), (pa, .inr (4, [.ref rq, .int (nI nx), .int (nI pl)])), (rq, .inl (γ.2 5, 8, .inr (.inr (.inr (.inr (fun i => some (ra i))))))), ((ra 0), .inr (6, [.ref (re 0), .int (nI (ln 0))])), ((re 0), .inl (γ.2 0, 12, .inl (fun j => nI ((rf 0) j)))), ((ra 1), .inr (6, [.ref (re 1), .int (nI (ln 1))])), ((re 1), .inl (γ.2 0, 12, .inl (fun j => nI ((rf 1) j)))), ((ra 2), .inr (6, [.ref (re 2), .int (nI (ln 2))])), ((re 2), .inl (γ.2 0, 12, .inl (fun j => nI ((rf 2) j)))), ((ra 3), .inr (6, [.ref (re 3), .int (nI (ln 3))])), ((re 3), .inl (γ.2 0, 12, .inl (fun j => nI ((rf 3) j)))), ((ra 4), .inr (6, [.ref (re 4), .int (nI (ln 4))])), ((re 4), .inl (γ.2 0, 12, .inl (fun j => nI ((rf 4) j)))), ((ra 5), .inr (6, [.ref (re 5), .int (nI (ln 5))])), ((re 5), .inl (γ.2 0, 12, .inl (fun j => nI ((rf 5) j)))), ((ra 6), .inr (6, [.ref (re 6), .int (nI (ln 6))])), ((re 6), .inl (γ.2 0, 12, .inl (fun j => nI ((rf 6) j)))), ((ra 7), .inr (6, [.ref (re 7), .int (nI (ln 7))])), ((re 7), .inl (γ.2 0, 12, .inl (fun j => nI ((rf 7) j))))] [some (.ref ns), some (.int (nI (jels f (jsrt f (n - 1)) i))), some (.int (nI i))] [] 0 0 22 := by
    intro d
    induction d with
    | zero => intro i hm; exact absurd hm (Nat.not_lt_zero _)
    | succ d ih_lp =>
      intro i hm hi
      refine J.iload_n g dX10_sort_22 rfl rfl ?_
      refine J.aload_n g dX10_sort_23 rfl rfl ?_
      refine J.get g jX10 3 (by decide) lf_X10_33 0 rfl rfl dX10_sort_24 ?_
      refine J.callV0 g (c_X6_length l γ _ _ _ _ ) jy_X6_length lm_X10_144 (q0 := 1) rfl jX6.1 ⟨⟨Nat.le_of_ble_eq_true rfl, Nat.le_of_ble_eq_true rfl⟩, Nat.le_of_ble_eq_true rfl, Nat.le_of_ble_eq_true rfl⟩ (Nat.le_of_ble_eq_true rfl) rfl [1, 2] rfl rfl dX10_sort_27 ?_
      intro _ _
      dsimp only [jpush]
      refine J.icmp_geN g dX10_sort_30 (tgt := 61) (by decide) (by omega) (by omega) (fun c_30 => ?_) (fun c_30 => ?_)
      · obtain rfl : i = n := by omega
        refine J.iload_n g dX10_sort_61 rfl rfl ?_
        refine J.if_leN g dX10_sort_62 (tgt := 87) (by decide) (by omega) (fun c_62 => absurd c_62 (by omega)) (fun c_62 => ?_)
        refine J.aload_n g dX10_sort_65 rfl rfl ?_
        refine J.get g jX10 6 (by decide) lf_X10_46 0 rfl rfl dX10_sort_66 ?_
        refine J.aload_n g dX10_sort_69 rfl rfl ?_
        refine J.get g jX10 3 (by decide) lf_X10_33 0 rfl rfl dX10_sort_70 ?_
        refine J.callV g (c_X4_keep l γ _ _ _ _ _ _ _ _ _ _ _ _ hx hp hn) jy_X4_keep lm_X10_259 (q0 := 5) rfl jX4.1 ⟨⟨Nat.le_of_ble_eq_true rfl, Nat.le_of_ble_eq_true rfl⟩, Nat.le_of_ble_eq_true rfl, Nat.le_of_ble_eq_true rfl⟩ (Nat.le_of_ble_eq_true rfl) rfl [5, 6, 7, 8, 9, 10, 11, 12, 13, 14, 15, 16, 17, 18, 19, 20, 21, 22, 1, 2] rfl (fun _ => rfl) rfl dX10_sort_73 ?_
        intro u_73 h_73
        dsimp only [jput, List.set_cons_zero, List.set_cons_succ, Option.toList, List.append, List.cons_append, List.nil_append, List.append_nil]
        refine J.aload_n g dX10_sort_76 rfl rfl ?_
        refine J.get g jX10 3 (by decide) lf_X10_33 0 rfl rfl dX10_sort_77 ?_
        refine J.aload_n g dX10_sort_80 rfl rfl ?_
        refine J.get g jX10 5 (by decide) lf_X10_40 0 rfl rfl dX10_sort_81 ?_
        refine J.callV g (c_X6_copyFrom l γ _ _ _ _ _ _ _ _ hn) jy_X6_copyFrom lm_X10_122 (q0 := 1) rfl jX6.1 ⟨⟨Nat.le_of_ble_eq_true rfl, Nat.le_of_ble_eq_true rfl⟩, Nat.le_of_ble_eq_true rfl, Nat.le_of_ble_eq_true rfl⟩ (Nat.le_of_ble_eq_true rfl) rfl [1, 2, 3, 4] rfl (fun _ => rfl) rfl dX10_sort_84 ?_
        intro u_84 h_84
        dsimp only [jput, List.set_cons_zero, List.set_cons_succ, Option.toList, List.append, List.cons_append, List.nil_append, List.append_nil]
        refine J.iload_n g dX10_sort_87 rfl rfl ?_
        exact J.iret g hE (gs, u_84, u_73) rfl ⟨fun j hj => (h_84 j hj).trans (hs j hj), h_73⟩ rfl ⟨Nat.le_of_ble_eq_true rfl, Nat.le_of_ble_eq_true rfl⟩ dX10_sort_88
      · refine J.aload_n g dX10_sort_33 rfl rfl ?_
        refine J.get g jX10 5 (by decide) lf_X10_40 0 rfl rfl dX10_sort_34 ?_
        refine J.iload_n g dX10_sort_37 rfl rfl ?_
        refine J.callV0 g (c_X6_elementAt_n l γ _ _ _ _ _ hn (by omega)) jy_X6_elementAt lm_X10_153 (q0 := 3) rfl jX6.1 ⟨⟨Nat.le_of_ble_eq_true rfl, Nat.le_of_ble_eq_true rfl⟩, Nat.le_of_ble_eq_true rfl, Nat.le_of_ble_eq_true rfl⟩ (Nat.le_of_ble_eq_true rfl) rfl [3, 4] rfl rfl dX10_sort_38 ?_
        intro _ _
        dsimp only [jpush]
        refine J.aload_n g dX10_sort_41 rfl rfl ?_
        refine J.get g jX10 3 (by decide) lf_X10_33 0 rfl rfl dX10_sort_42 ?_
        refine J.iload_n g dX10_sort_45 rfl rfl ?_
        refine J.callV0 g (c_X6_elementAt_n l γ _ _ _ _ _ hn (by omega)) jy_X6_elementAt lm_X10_153 (q0 := 1) rfl jX6.1 ⟨⟨Nat.le_of_ble_eq_true rfl, Nat.le_of_ble_eq_true rfl⟩, Nat.le_of_ble_eq_true rfl, Nat.le_of_ble_eq_true rfl⟩ (Nat.le_of_ble_eq_true rfl) rfl [1, 2] rfl rfl dX10_sort_46 ?_
        intro _ _
        dsimp only [jpush]
        refine J.icmp_eqN g dX10_sort_49 (tgt := 55) (by decide) (by have := hs24 i (by omega); omega) (by have := hf i (by omega); omega) (fun c_49 => ?_) (fun c_49 => ?_)
        · have hq : jels f (jsrt f (n - 1)) (i + 1) = jels f (jsrt f (n - 1)) i := jels_e (by rw [← hs i (by omega)]; exact c_49)
          refine J.iincN g 1 dX10_sort_55 rfl rfl ?_
          try dsimp only [List.set_cons_zero, List.set_cons_succ]
          refine J.goto g dX10_sort_58 (tgt := 22) (by decide) ?_
          have ih2 := ih_lp (i + 1) (by omega) (by omega)
          rw [hq] at ih2
          exact J.lvle (jle_s (jle_s (jle_s jle_0))) ih2
        · have hq : jels f (jsrt f (n - 1)) (i + 1) = jels f (jsrt f (n - 1)) i + 1 := jels_n (by rw [← hs i (by omega)]; exact c_49)
          refine J.iincN g 1 dX10_sort_52 rfl rfl ?_
          try dsimp only [List.set_cons_zero, List.set_cons_succ]
          refine J.iincN g 1 dX10_sort_55 rfl rfl ?_
          try dsimp only [List.set_cons_zero, List.set_cons_succ]
          refine J.goto g dX10_sort_58 (tgt := 22) (by decide) ?_
          have ih2 := ih_lp (i + 1) (by omega) (by omega)
          rw [hq] at ih2
          exact J.lvle (jle_s (jle_s (jle_s jle_0))) ih2
  exact J.lvle (jle_s (jle_s (jle_s jle_0))) (lp _ 0 (Nat.lt_succ_self _) (Nat.zero_le _))
set_option maxHeartbeats 4000000 in
set_option maxRecDepth 100000 in
theorem c_X10_like_yes (l : Launch) (γ : jγ) (ns tp rd gr rw tr oo pa iq sr sgn pp mu : Nat) (dsd : Int32) (rwe n : Nat) (f : Nat → Nat) (mk ag cd pt od ex : Nat) (mf af : Nat → Nat) (ooe oon : Nat) (oof : Nat → Nat) (tre trn : Nat) (trf : Nat → Nat) (k : Nat) (hn : n ≤ 12) (hT : jtab od mf af) (hf : ∀ j, j < n → f j < 24) (hk : k < n) (hx : 1 ≤ ex ∧ ex ≤ 24) : jM (S := (Nat → Nat) × (Nat × (Nat → Nat))) l γ yX10_like cX10_like 3 (some .int) ({ frames := 4, cells := 0, slots := 0, locals := 90 } : Room) [.ref ns, .int (nI k)] [(ns, .inr (10, [.ref tp, .ref rd, .ref gr, .ref rw, .ref tr, .ref oo, .ref pa, .ref iq, .ref sr, .ref sgn, .ref pp, .ref mu, .int dsd])), (rw, .inr (6, [.ref rwe, .int (nI n)])), (rwe, .inl (γ.2 0, 12, .inl (fun j => nI (f j)))), (gr, .inr (0, [.ref mk, .ref ag, .int (nI cd), .int (nI pt), .int (nI od), .int (nI ex)])), (mk, .inl (γ.2 1, 576, .inl (fun j => nI (mf j)))), (ag, .inl (γ.2 1, 24, .inl (fun j => nI (af j)))), (oo, .inr (6, [.ref ooe, .int (nI oon)])), (ooe, .inl (γ.2 0, 12, .inl (fun j => nI (oof j)))), (tr, .inr (6, [.ref tre, .int (nI trn)])), (tre, .inl (γ.2 0, 12, .inl (fun j => nI (trf j))))] (fun u => some (.int (nI (jlk od ex mf f n (ex - 1) k)))) (fun u => [(ns, .inr (10, [.ref tp, .ref rd, .ref gr, .ref rw, .ref tr, .ref oo, .ref pa, .ref iq, .ref sr, .ref sgn, .ref pp, .ref mu, .int dsd])), (rw, .inr (6, [.ref rwe, .int (nI n)])), (rwe, .inl (γ.2 0, 12, .inl (fun j => nI (f j)))), (gr, .inr (0, [.ref mk, .ref ag, .int (nI cd), .int (nI pt), .int (nI od), .int (nI ex)])), (mk, .inl (γ.2 1, 576, .inl (fun j => nI (mf j)))), (ag, .inl (γ.2 1, 24, .inl (fun j => nI (af j)))), (oo, .inr (6, [.ref ooe, .int (nI n)])), (ooe, .inl (γ.2 0, 12, .inl (fun j => nI (u.1 j)))), (tr, .inr (6, [.ref tre, .int (nI u.2.1)])), (tre, .inl (γ.2 0, 12, .inl (fun j => nI (u.2.2 j))))]) (fun u => True) := by
  refine jM.of [some (.ref ns), some (.int (nI k)), none] rfl (Nat.le_of_ble_eq_true rfl) (by decide) ?_
  intro x g hE hin
  refine J.aload_n g dX10_like_0 rfl rfl ?_
  refine J.get g jX10 3 (by decide) lf_X10_33 0 rfl rfl dX10_like_1 ?_
  refine J.iload_n g dX10_like_4 rfl rfl ?_
  refine J.callV0 g (c_X6_has_n l γ _ _ _ _ _ hn (by omega)) jy_X6_has lm_X10_229 (q0 := 1) rfl jX6.1 ⟨⟨Nat.le_of_ble_eq_true rfl, Nat.le_of_ble_eq_true rfl⟩, Nat.le_of_ble_eq_true rfl, Nat.le_of_ble_eq_true rfl⟩ (Nat.le_of_ble_eq_true rfl) rfl [1, 2] rfl rfl dX10_like_5 ?_
  intro _ _
  dsimp only [jpush]
  refine J.if_neB g dX10_like_8 (tgt := 13) (by decide) (fun c_8 => ?_) (fun c_8 => absurd c_8 (by simp [hk] at c_8))
  refine J.aload_n g dX10_like_13 rfl rfl ?_
  refine J.get g jX10 5 (by decide) lf_X10_40 0 rfl rfl dX10_like_14 ?_
  refine J.aload_n g dX10_like_17 rfl rfl ?_
  refine J.get g jX10 3 (by decide) lf_X10_33 0 rfl rfl dX10_like_18 ?_
  refine J.callV g (c_X6_copyFrom l γ _ _ _ _ _ _ _ _ hn) jy_X6_copyFrom lm_X10_122 (q0 := 6) rfl jX6.1 ⟨⟨Nat.le_of_ble_eq_true rfl, Nat.le_of_ble_eq_true rfl⟩, Nat.le_of_ble_eq_true rfl, Nat.le_of_ble_eq_true rfl⟩ (Nat.le_of_ble_eq_true rfl) rfl [6, 7, 1, 2] rfl (fun _ => rfl) rfl dX10_like_21 ?_
  intro u_21 h_21
  dsimp only [jput, List.set_cons_zero, List.set_cons_succ, Option.toList, List.append, List.cons_append, List.nil_append, List.append_nil]
  refine J.aload_n g dX10_like_24 rfl rfl ?_
  refine J.get g jX10 5 (by decide) lf_X10_40 0 rfl rfl dX10_like_25 ?_
  refine J.callV g (c_X6_putInOrder l γ _ _ _ _ hn (fun j hj => by rw [h_21 j hj]; exact hf j hj)) jy_X6_putInOrder lm_X10_233 (q0 := 6) rfl jX6.1 ⟨⟨Nat.le_of_ble_eq_true rfl, Nat.le_of_ble_eq_true rfl⟩, Nat.le_of_ble_eq_true rfl, Nat.le_of_ble_eq_true rfl⟩ (Nat.le_of_ble_eq_true rfl) rfl [6, 7] rfl (fun _ => rfl) rfl dX10_like_28 ?_
  intro _ _
  dsimp only [jput, List.set_cons_zero, List.set_cons_succ, Option.toList, List.append, List.cons_append, List.nil_append, List.append_nil]
  refine J.iconstN g 2 dX10_like_31 ?_
  refine J.istore_n g dX10_like_32 rfl rfl rfl ?_
  try dsimp only [List.set_cons_zero, List.set_cons_succ]
  have lp : ∀ (d : Nat) (u : Nat) (h : Nat → Nat) (tn : Nat) (th : Nat → Nat), ex + 1 - u < d → (2 ≤ u ∧ u ≤ ex + 1) → (∀ j, j < n → h j = jlk od ex mf f n (u - 2) j) → J γ l x [(ns, .inr (10, [.ref tp, .ref rd, .ref gr, .ref rw, .ref tr, .ref oo, .ref pa, .ref iq, .ref sr, .ref sgn, .ref pp, .ref mu, .int dsd])), (rw, .inr (6, [.ref rwe, .int (nI n)])), (rwe, .inl (γ.2 0, 12, .inl (fun j => nI (f j)))), (gr, .inr (0, [.ref mk, .ref ag, .int (nI cd), .int (nI pt), .int (nI od), .int (nI ex)])), (mk, .inl (γ.2 1, 576, .inl (fun j => nI (mf j)))), (ag, .inl (γ.2 1, 24, .inl (fun j => nI (af j)))), (oo, .inr (6, [.ref ooe, .int (nI n)])), (ooe, .inl (γ.2 0, 12, .inl (fun j => nI (h j)))), (tr, .inr (6, [.ref tre, .int (nI tn)])), (tre, .inl (γ.2 0, 12, .inl (fun j => nI (th j))))] [some (.ref ns), some (.int (nI k)), some (.int (nI u))] [] 0 0 33 := by
    intro d
    induction d with
    | zero => intro u h tn th hm; exact absurd hm (Nat.not_lt_zero _)
    | succ d ih_lp =>
      intro u h tn th hm hi hh
      refine J.iload_n g dX10_like_33 rfl rfl ?_
      refine J.aload_n g dX10_like_34 rfl rfl ?_
      refine J.get g jX10 2 (by decide) lf_X10_26 0 rfl rfl dX10_like_35 ?_
      refine J.callV0 g (c_X0_exponent l γ _ _ _ _ _ _ _ _ _ ) jy_X0_exponent lm_X10_141 (q0 := 3) rfl jX0.1 ⟨⟨Nat.le_of_ble_eq_true rfl, Nat.le_of_ble_eq_true rfl⟩, Nat.le_of_ble_eq_true rfl, Nat.le_of_ble_eq_true rfl⟩ (Nat.le_of_ble_eq_true rfl) rfl [3, 4, 5] rfl rfl dX10_like_38 ?_
      intro _ _
      dsimp only [jpush]
      refine J.icmp_gtN g dX10_like_41 (tgt := 116) (by decide) (by omega) (by omega) (fun c_41 => ?_) (fun c_41 => ?_)
      · refine J.aload_n g dX10_like_116 rfl rfl ?_
        refine J.get g jX10 5 (by decide) lf_X10_40 0 rfl rfl dX10_like_117 ?_
        refine J.iload_n g dX10_like_120 rfl rfl ?_
        refine J.callV0 g (c_X6_elementAt_n l γ _ _ _ _ _ hn hk) jy_X6_elementAt lm_X10_153 (q0 := 6) rfl jX6.1 ⟨⟨Nat.le_of_ble_eq_true rfl, Nat.le_of_ble_eq_true rfl⟩, Nat.le_of_ble_eq_true rfl, Nat.le_of_ble_eq_true rfl⟩ (Nat.le_of_ble_eq_true rfl) rfl [6, 7] rfl rfl dX10_like_121 ?_
        intro _ _
        dsimp only [jpush]
        exact J.iret g hE (h, (tn, th)) (by rw [hh k hk, show u - 2 = ex - 1 by omega]) trivial rfl ⟨Nat.le_of_ble_eq_true rfl, Nat.le_of_ble_eq_true rfl⟩ dX10_like_124
      · refine J.aload_n g dX10_like_44 rfl rfl ?_
        refine J.get g jX10 2 (by decide) lf_X10_26 0 rfl rfl dX10_like_45 ?_
        refine J.iload_n g dX10_like_48 rfl rfl ?_
        refine J.callV0 g (c_X0_isUnit l γ _ _ _ _ _ _ _ _ _ _ (by omega) (by omega)) jy_X0_isUnit lm_X10_236 (q0 := 3) rfl jX0.1 ⟨⟨Nat.le_of_ble_eq_true rfl, Nat.le_of_ble_eq_true rfl⟩, Nat.le_of_ble_eq_true rfl, Nat.le_of_ble_eq_true rfl⟩ (Nat.le_of_ble_eq_true rfl) rfl [3, 4, 5] rfl rfl dX10_like_49 ?_
        intro _ _
        dsimp only [jpush]
        refine J.if_eqB g dX10_like_52 (tgt := 110) (by decide) (fun c_52 => ?_) (fun c_52 => ?_)
        · have hnx : ∀ j, j < n → h j = jlk od ex mf f n (u + 1 - 2) j := fun j hj => by rw [show u + 1 - 2 = u - 1 by omega, jlk_0 hi.1 (fun z => by rw [c_52] at z; cases z.1)]; exact hh j hj
          refine J.iincN g 1 dX10_like_110 rfl rfl ?_
          try dsimp only [List.set_cons_zero, List.set_cons_succ]
          refine J.goto g dX10_like_113 (tgt := 33) (by decide) ?_
          exact J.lvle (jle_s (jle_s (jle_s jle_0))) (ih_lp (u + 1) _ _ _ (by omega) (by omega) hnx)
        · refine J.aload_n g dX10_like_55 rfl rfl ?_
          refine J.get g jX10 4 (by decide) lf_X10_37 0 rfl rfl dX10_like_56 ?_
          refine J.aload_n g dX10_like_59 rfl rfl ?_
          refine J.get g jX10 3 (by decide) lf_X10_33 0 rfl rfl dX10_like_60 ?_
          refine J.callV g (c_X6_copyFrom l γ _ _ _ _ _ _ _ _ hn) jy_X6_copyFrom lm_X10_122 (q0 := 8) rfl jX6.1 ⟨⟨Nat.le_of_ble_eq_true rfl, Nat.le_of_ble_eq_true rfl⟩, Nat.le_of_ble_eq_true rfl, Nat.le_of_ble_eq_true rfl⟩ (Nat.le_of_ble_eq_true rfl) rfl [8, 9, 1, 2] rfl (fun _ => rfl) rfl dX10_like_63 ?_
          intro u_63 h_63
          dsimp only [jput, List.set_cons_zero, List.set_cons_succ, Option.toList, List.append, List.cons_append, List.nil_append, List.append_nil]
          refine J.aload_n g dX10_like_66 rfl rfl ?_
          refine J.get g jX10 4 (by decide) lf_X10_37 0 rfl rfl dX10_like_67 ?_
          refine J.aload_n g dX10_like_70 rfl rfl ?_
          refine J.get g jX10 2 (by decide) lf_X10_26 0 rfl rfl dX10_like_71 ?_
          refine J.iload_n g dX10_like_74 rfl rfl ?_
          refine J.callV g (c_X6_multiply l γ _ _ _ _ _ _ _ _ _ _ _ _ _ _ hn hT (fun j hj => by rw [h_63 j hj]; exact hf j hj) (by omega)) jy_X6_multiply lm_X10_239 (q0 := 8) rfl jX6.1 ⟨⟨Nat.le_of_ble_eq_true rfl, Nat.le_of_ble_eq_true rfl⟩, Nat.le_of_ble_eq_true rfl, Nat.le_of_ble_eq_true rfl⟩ (Nat.le_of_ble_eq_true rfl) rfl [8, 9, 3, 4, 5] rfl (fun _ => rfl) rfl dX10_like_75 ?_
          intro u_75 h_75
          dsimp only [jput, List.set_cons_zero, List.set_cons_succ, Option.toList, List.append, List.cons_append, List.nil_append, List.append_nil]
          refine J.aload_n g dX10_like_78 rfl rfl ?_
          refine J.get g jX10 4 (by decide) lf_X10_37 0 rfl rfl dX10_like_79 ?_
          refine J.callV g (c_X6_putInOrder l γ _ _ _ _ hn (fun j hj => by rw [h_75 j hj]; exact jmul_24 hT _ _)) jy_X6_putInOrder lm_X10_233 (q0 := 8) rfl jX6.1 ⟨⟨Nat.le_of_ble_eq_true rfl, Nat.le_of_ble_eq_true rfl⟩, Nat.le_of_ble_eq_true rfl, Nat.le_of_ble_eq_true rfl⟩ (Nat.le_of_ble_eq_true rfl) rfl [8, 9] rfl (fun _ => rfl) rfl dX10_like_82 ?_
          intro _ _
          dsimp only [jput, List.set_cons_zero, List.set_cons_succ, Option.toList, List.append, List.cons_append, List.nil_append, List.append_nil]
          obtain ⟨gt, hgt⟩ : ∃ z, z = jsrt u_75 (n - 1) := ⟨_, rfl⟩
          rw [← hgt]
          have hs : ∀ j, j < n → gt j = jlku od mf f n u j := fun j hj => by rw [hgt]; exact jsrt_congr1 (fun i hi => by rw [h_75 i hi, h_63 i hi]) j hj
          have hs24 : ∀ j, j < n → gt j < 24 := fun j hj => by rw [hs j hj]; exact jsrt_24 (fun i _ => jmul_24 hT _ _) (n - 1) (by omega) j hj
          refine J.aload_n g dX10_like_85 rfl rfl ?_
          refine J.get g jX10 4 (by decide) lf_X10_37 0 rfl rfl dX10_like_86 ?_
          refine J.aload_n g dX10_like_89 rfl rfl ?_
          refine J.get g jX10 5 (by decide) lf_X10_40 0 rfl rfl dX10_like_90 ?_
          refine J.callV0 g (c_X6_isLessThan l γ _ _ _ _ _ _ _ _ hn hs24 (fun j hj => by rw [hh j hj]; exact jlk_24 hT hf (by omega) _ j hj)) jy_X6_isLessThan lm_X10_243 (q0 := 8) rfl jX6.1 ⟨⟨Nat.le_of_ble_eq_true rfl, Nat.le_of_ble_eq_true rfl⟩, Nat.le_of_ble_eq_true rfl, Nat.le_of_ble_eq_true rfl⟩ (Nat.le_of_ble_eq_true rfl) rfl [8, 9, 6, 7] rfl rfl dX10_like_93 ?_
          intro _ _
          dsimp only [jpush]
          have hjl : jlt gt h n 0 = jlt (jlku od mf f n u) (jlk od ex mf f n (u - 2)) n 0 := jlt_congr n 0 (fun j _ hj => hs j (by omega)) (fun j _ hj => hh j (by omega))
          rw [hjl]
          refine J.if_eqB g dX10_like_96 (tgt := 110) (by decide) (fun c_96 => ?_) (fun c_96 => ?_)
          · have hnx : ∀ j, j < n → h j = jlk od ex mf f n (u + 1 - 2) j := fun j hj => by rw [show u + 1 - 2 = u - 1 by omega, jlk_0 hi.1 (fun z => by rw [c_96] at z; cases z.2)]; exact hh j hj
            refine J.iincN g 1 dX10_like_110 rfl rfl ?_
            try dsimp only [List.set_cons_zero, List.set_cons_succ]
            refine J.goto g dX10_like_113 (tgt := 33) (by decide) ?_
            exact J.lvle (jle_s (jle_s (jle_s jle_0))) (ih_lp (u + 1) _ _ _ (by omega) (by omega) hnx)
          · refine J.aload_n g dX10_like_99 rfl rfl ?_
            refine J.get g jX10 5 (by decide) lf_X10_40 0 rfl rfl dX10_like_100 ?_
            refine J.aload_n g dX10_like_103 rfl rfl ?_
            refine J.get g jX10 4 (by decide) lf_X10_37 0 rfl rfl dX10_like_104 ?_
            refine J.callV g (c_X6_copyFrom l γ _ _ _ _ _ _ _ _ hn) jy_X6_copyFrom lm_X10_122 (q0 := 6) rfl jX6.1 ⟨⟨Nat.le_of_ble_eq_true rfl, Nat.le_of_ble_eq_true rfl⟩, Nat.le_of_ble_eq_true rfl, Nat.le_of_ble_eq_true rfl⟩ (Nat.le_of_ble_eq_true rfl) rfl [6, 7, 8, 9] rfl (fun _ => rfl) rfl dX10_like_107 ?_
            intro u_107 h_107
            dsimp only [jput, List.set_cons_zero, List.set_cons_succ, Option.toList, List.append, List.cons_append, List.nil_append, List.append_nil]
            have hnx : ∀ j, j < n → u_107 j = jlk od ex mf f n (u + 1 - 2) j := fun j hj => by rw [show u + 1 - 2 = u - 1 by omega, jlk_1 hi.1 ⟨c_52, c_96⟩, h_107 j hj]; exact hs j hj
            refine J.iincN g 1 dX10_like_110 rfl rfl ?_
            try dsimp only [List.set_cons_zero, List.set_cons_succ]
            refine J.goto g dX10_like_113 (tgt := 33) (by decide) ?_
            exact J.lvle (jle_s (jle_s (jle_s jle_0))) (ih_lp (u + 1) _ _ _ (by omega) (by omega) hnx)
  exact J.lvle (jle_s (jle_s (jle_s jle_0))) (lp _ 2 (jsrt u_21 (n - 1)) trn trf (Nat.lt_succ_self _) (by omega) (fun j hj => jsrt_congr1 h_21 j hj))
set_option maxHeartbeats 4000000 in
set_option maxRecDepth 100000 in
theorem c_X10_like_no (l : Launch) (γ : jγ) (ns tp rd gr rw tr oo pa iq sr sgn pp mu : Nat) (dsd : Int32) (rwe n : Nat) (f : Nat → Nat) (w : Int32) (hn : n ≤ 12) (hw : jhas w n = false) : jM (S := Unit) l γ yX10_like cX10_like 3 (some .int) ({ frames := 4, cells := 0, slots := 0, locals := 90 } : Room) [.ref ns, .int w] [(ns, .inr (10, [.ref tp, .ref rd, .ref gr, .ref rw, .ref tr, .ref oo, .ref pa, .ref iq, .ref sr, .ref sgn, .ref pp, .ref mu, .int dsd])), (rw, .inr (6, [.ref rwe, .int (nI n)])), (rwe, .inl (γ.2 0, 12, .inl (fun j => nI (f j))))] (fun w0 => some (.int (-1))) (fun w0 => [(ns, .inr (10, [.ref tp, .ref rd, .ref gr, .ref rw, .ref tr, .ref oo, .ref pa, .ref iq, .ref sr, .ref sgn, .ref pp, .ref mu, .int dsd])), (rw, .inr (6, [.ref rwe, .int (nI n)])), (rwe, .inl (γ.2 0, 12, .inl (fun j => nI (f j))))]) (fun w0 => True) := by
  refine jM.of [some (.ref ns), some (.int w), none] rfl (Nat.le_of_ble_eq_true rfl) (by decide) ?_
  intro x g hE hin
  refine J.aload_n g dX10_like_0 rfl rfl ?_
  refine J.get g jX10 3 (by decide) lf_X10_33 0 rfl rfl dX10_like_1 ?_
  refine J.iload_n g dX10_like_4 rfl rfl ?_
  refine J.callV0 g (c_X6_has l γ _ _ _ _ _ hn) jy_X6_has lm_X10_229 (q0 := 1) rfl jX6.1 ⟨⟨Nat.le_of_ble_eq_true rfl, Nat.le_of_ble_eq_true rfl⟩, Nat.le_of_ble_eq_true rfl, Nat.le_of_ble_eq_true rfl⟩ (Nat.le_of_ble_eq_true rfl) rfl [1, 2] rfl rfl dX10_like_5 ?_
  intro _ _
  dsimp only [jpush]
  refine J.if_neB g dX10_like_8 (tgt := 13) (by decide) (fun c_8 => absurd c_8 (by simp [hw] at c_8)) (fun c_8 => ?_)
  refine J.iconst (v := -1) g dX10_like_11 (by decide) ?_
  exact J.iret g hE () rfl trivial rfl ⟨Nat.le_of_ble_eq_true rfl, Nat.le_of_ble_eq_true rfl⟩ dX10_like_12
set_option maxHeartbeats 4000000 in
set_option maxRecDepth 100000 in
theorem c_X10_draw_u (l : Launch) (γ : jγ) (ns tp rd gr rw tr oo pa iq sr sgn pp mu : Nat) (dsd : Int32) (n : Nat) (hn : n < 2 ^ 31) : jM (S := Int32 × Nat) l γ yX10_draw cX10_draw 2 (some .int) ({ frames := 0, cells := 0, slots := 0, locals := 0 } : Room) [.ref ns, .int (nI n)] [(ns, .inr (10, [.ref tp, .ref rd, .ref gr, .ref rw, .ref tr, .ref oo, .ref pa, .ref iq, .ref sr, .ref sgn, .ref pp, .ref mu, .int dsd]))] (fun u => some (.int (nI u.2))) (fun u => [(ns, .inr (10, [.ref tp, .ref rd, .ref gr, .ref rw, .ref tr, .ref oo, .ref pa, .ref iq, .ref sr, .ref sgn, .ref pp, .ref mu, .int u.1]))]) (fun u => u.1 = jdr dsd ∧ u.2 = jdv dsd n) := by
  refine jM.of [some (.ref ns), some (.int (nI n))] rfl (Nat.le_of_ble_eq_true rfl) (by decide) ?_
  intro x g hE hin
  refine J.aload_n g dX10_draw_0 rfl rfl ?_
  refine J.aload_n g dX10_draw_1 rfl rfl ?_
  refine J.get g jX10 12 (by decide) lf_X10_85 0 rfl rfl dX10_draw_2 ?_
  refine J.ldcw g lc_X10_292 dX10_draw_5 ?_
  refine J.imul g dX10_draw_8 ?_
  refine J.sipush (v := nI 12345) g dX10_draw_9 (by decide +kernel) ?_
  refine J.iadd g dX10_draw_12 ?_
  refine J.put g jX10 12 (by decide) lf_X10_85 0 rfl rfl (Nat.le_of_ble_eq_true rfl) rfl rfl dX10_draw_13 ?_
  try dsimp only [List.set_cons_zero, List.set_cons_succ]
  refine J.iload_n g dX10_draw_16 rfl rfl ?_
  refine J.iconstN g 1 dX10_draw_17 ?_
  refine J.icmp_geN g dX10_draw_18 (tgt := 25) (by decide) (by omega) (by omega) (fun c_18 => ?_) (fun c_18 => ?_)
  · refine J.aload_n g dX10_draw_25 rfl rfl ?_
    refine J.get g jX10 12 (by decide) lf_X10_85 0 rfl rfl dX10_draw_26 ?_
    refine J.bipush (v := nI 8) g dX10_draw_29 (by decide +kernel) ?_
    refine J.iushr g dX10_draw_31 (jdr_sh dsd) ?_
    refine J.iload_n g dX10_draw_32 rfl rfl ?_
    refine J.iremN g dX10_draw_33 (by have := (jdr dsd).toBitVec.isLt; omega) (by omega) (by omega) ?_
    exact J.iret g hE (jdr dsd, jdv dsd n) (by first | rw [jdv, if_pos c_18] | rw [jdv, if_neg (Nat.not_lt.mpr c_18)]) ⟨rfl, rfl⟩ rfl ⟨Nat.le_of_ble_eq_true rfl, Nat.le_of_ble_eq_true rfl⟩ dX10_draw_34
  · refine J.iconstN g 0 dX10_draw_21 ?_
    refine J.goto g dX10_draw_22 (tgt := 34) (by decide) ?_
    exact J.iret g hE (jdr dsd, jdv dsd n) (by first | rw [jdv, if_pos c_18] | rw [jdv, if_neg (Nat.not_lt.mpr c_18)]) ⟨rfl, rfl⟩ rfl ⟨Nat.le_of_ble_eq_true rfl, Nat.le_of_ble_eq_true rfl⟩ dX10_draw_34
set_option maxHeartbeats 4000000 in
set_option maxRecDepth 100000 in
theorem c_X10_doDrawnDeed (l : Launch) (γ : jγ) (ns tp rd gr rw tr oo pa iq sr sgn pp mu : Nat) (dsd : Int32) (rwe n : Nat) (f : Nat → Nat) (mk ag cd pt od ex : Nat) (mf af : Nat → Nat) (hn : n ≤ 12) (hT : jtab od mf af) (hf : ∀ j, j < n → f j < 24) (he : ex ≤ 24) (h1 : od = 0 ∨ 1 ≤ ex) : jM (S := Int32 × Nat × (Nat → Nat)) l γ yX10_doDrawnDeed cX10_doDrawnDeed 3 (some .boolean) ({ frames := 4, cells := 0, slots := 0, locals := 90 } : Room) [.ref ns] [(ns, .inr (10, [.ref tp, .ref rd, .ref gr, .ref rw, .ref tr, .ref oo, .ref pa, .ref iq, .ref sr, .ref sgn, .ref pp, .ref mu, .int dsd])), (rw, .inr (6, [.ref rwe, .int (nI n)])), (rwe, .inl (γ.2 0, 12, .inl (fun j => nI (f j)))), (gr, .inr (0, [.ref mk, .ref ag, .int (nI cd), .int (nI pt), .int (nI od), .int (nI ex)])), (mk, .inl (γ.2 1, 576, .inl (fun j => nI (mf j)))), (ag, .inl (γ.2 1, 24, .inl (fun j => nI (af j))))] (fun u => some (.int (jB ((jdd od ex mf (dsd, n, f)).1)))) (fun u => [(ns, .inr (10, [.ref tp, .ref rd, .ref gr, .ref rw, .ref tr, .ref oo, .ref pa, .ref iq, .ref sr, .ref sgn, .ref pp, .ref mu, .int u.1])), (rw, .inr (6, [.ref rwe, .int (nI u.2.1)])), (rwe, .inl (γ.2 0, 12, .inl (fun j => nI (u.2.2 j)))), (gr, .inr (0, [.ref mk, .ref ag, .int (nI cd), .int (nI pt), .int (nI od), .int (nI ex)])), (mk, .inl (γ.2 1, 576, .inl (fun j => nI (mf j)))), (ag, .inl (γ.2 1, 24, .inl (fun j => nI (af j))))]) (fun u => jdAg u (jdd od ex mf (dsd, n, f)).2) := by
  refine jM.of [some (.ref ns), none, none] rfl (Nat.le_of_ble_eq_true rfl) (by decide) ?_
  intro x g hE hin
  have hT1 := hT.1
  refine J.aload_n g dX10_doDrawnDeed_0 rfl rfl ?_
  refine J.iconstN g 4 dX10_doDrawnDeed_1 ?_
  refine J.callV g (c_X10_draw_u l γ _ _ _ _ _ _ _ _ _ _ _ _ _ _ _ (by omega)) jy_X10_draw lm_X10_293 (q0 := 0) rfl jX10.1 ⟨⟨Nat.le_of_ble_eq_true rfl, Nat.le_of_ble_eq_true rfl⟩, Nat.le_of_ble_eq_true rfl, Nat.le_of_ble_eq_true rfl⟩ (Nat.le_of_ble_eq_true rfl) rfl [0] rfl (fun _ => rfl) rfl dX10_doDrawnDeed_2 ?_
  intro u_2 h_2
  obtain ⟨s2, k2⟩ := u_2
  dsimp only at h_2
  obtain ⟨hs2, hk2⟩ := h_2
  dsimp only [jput, List.set_cons_zero, List.set_cons_succ, Option.toList, List.append, List.cons_append, List.nil_append, List.append_nil]
  have hb2 : k2 < 4 := by rw [hk2]; exact jdv_lt (by omega)
  refine J.istore_n g dX10_doDrawnDeed_5 rfl rfl rfl ?_
  try dsimp only [List.set_cons_zero, List.set_cons_succ]
  refine J.aload_n g dX10_doDrawnDeed_6 rfl rfl ?_
  refine J.get g jX10 2 (by decide) lf_X10_26 0 rfl rfl dX10_doDrawnDeed_7 ?_
  refine J.callV0 g (c_X0_order l γ _ _ _ _ _ _ _ _ _ ) jy_X0_order lm_X10_138 (q0 := 3) rfl jX0.1 ⟨⟨Nat.le_of_ble_eq_true rfl, Nat.le_of_ble_eq_true rfl⟩, Nat.le_of_ble_eq_true rfl, Nat.le_of_ble_eq_true rfl⟩ (Nat.le_of_ble_eq_true rfl) rfl [3, 4, 5] rfl rfl dX10_doDrawnDeed_10 ?_
  intro _ _
  dsimp only [jpush]
  refine J.if_neN g dX10_doDrawnDeed_13 (tgt := 18) (by decide) (by omega) (fun c_13 => ?_) (fun c_13 => ?_)
  · refine J.iload_n g dX10_doDrawnDeed_18 rfl rfl ?_
    refine J.if_neN g dX10_doDrawnDeed_19 (tgt := 59) (by decide) (by omega) (fun c_19 => ?_) (fun c_19 => ?_)
    · refine J.iload_n g dX10_doDrawnDeed_59 rfl rfl ?_
      refine J.iconstN g 1 dX10_doDrawnDeed_60 ?_
      refine J.icmp_neN g dX10_doDrawnDeed_61 (tgt := 102) (by decide) (by omega) (by omega) (fun c_61 => ?_) (fun c_61 => ?_)
      · refine J.aload_n g dX10_doDrawnDeed_102 rfl rfl ?_
        refine J.get g jX10 3 (by decide) lf_X10_33 0 rfl rfl dX10_doDrawnDeed_103 ?_
        refine J.aload_n g dX10_doDrawnDeed_106 rfl rfl ?_
        refine J.aload_n g dX10_doDrawnDeed_107 rfl rfl ?_
        refine J.get g jX10 2 (by decide) lf_X10_26 0 rfl rfl dX10_doDrawnDeed_108 ?_
        refine J.callV0 g (c_X0_order l γ _ _ _ _ _ _ _ _ _ ) jy_X0_order lm_X10_138 (q0 := 3) rfl jX0.1 ⟨⟨Nat.le_of_ble_eq_true rfl, Nat.le_of_ble_eq_true rfl⟩, Nat.le_of_ble_eq_true rfl, Nat.le_of_ble_eq_true rfl⟩ (Nat.le_of_ble_eq_true rfl) rfl [3, 4, 5] rfl rfl dX10_doDrawnDeed_111 ?_
        intro _ _
        dsimp only [jpush]
        refine J.callV g (c_X10_draw_u l γ _ _ _ _ _ _ _ _ _ _ _ _ _ _ _ (by omega)) jy_X10_draw lm_X10_293 (q0 := 0) rfl jX10.1 ⟨⟨Nat.le_of_ble_eq_true rfl, Nat.le_of_ble_eq_true rfl⟩, Nat.le_of_ble_eq_true rfl, Nat.le_of_ble_eq_true rfl⟩ (Nat.le_of_ble_eq_true rfl) rfl [0] rfl (fun _ => rfl) rfl dX10_doDrawnDeed_114 ?_
        intro u_114 h_114
        obtain ⟨s114, k114⟩ := u_114
        dsimp only at h_114
        obtain ⟨hs114, hk114⟩ := h_114
        dsimp only [jput, List.set_cons_zero, List.set_cons_succ, Option.toList, List.append, List.cons_append, List.nil_append, List.append_nil]
        rcases Nat.lt_or_ge n 12 with hn12 | hn12
        · refine J.callV g (c_X6_append l γ _ _ _ _ _ hn12) jy_X6_append lm_X10_262 (q0 := 1) rfl jX6.1 ⟨⟨Nat.le_of_ble_eq_true rfl, Nat.le_of_ble_eq_true rfl⟩, Nat.le_of_ble_eq_true rfl, Nat.le_of_ble_eq_true rfl⟩ (Nat.le_of_ble_eq_true rfl) rfl [1, 2] rfl (fun _ => rfl) rfl dX10_doDrawnDeed_117 ?_
          intro _ _
          dsimp only [jput, List.set_cons_zero, List.set_cons_succ, Option.toList, List.append, List.cons_append, List.nil_append, List.append_nil]
          exact J.zret (by first | rfl | exact j_nz _) g hE (s114, n + 1, va_up f n k114) (by subst hk114; subst hs114; subst hk2; subst hs2; rw [jdd_c c_13 c_19 c_61 hn12]) (by subst hk114; subst hs114; subst hk2; subst hs2; rw [jdd_c c_13 c_19 c_61 hn12]; exact ⟨rfl, rfl, fun j hj => rfl⟩) rfl ⟨Nat.le_of_ble_eq_true rfl, Nat.le_of_ble_eq_true rfl⟩ dX10_doDrawnDeed_120
        · obtain rfl : n = 12 := by omega
          refine J.callV0 g (c_X6_append_full l γ _ _ _ _ _ rfl) jy_X6_append lm_X10_262 (q0 := 1) rfl jX6.1 ⟨⟨Nat.le_of_ble_eq_true rfl, Nat.le_of_ble_eq_true rfl⟩, Nat.le_of_ble_eq_true rfl, Nat.le_of_ble_eq_true rfl⟩ (Nat.le_of_ble_eq_true rfl) rfl [1, 2] rfl rfl dX10_doDrawnDeed_117 ?_
          intro _ _
          dsimp only [jpush]
          exact J.zret (by first | rfl | exact j_nz _) g hE (s114, 12, f) (by subst hk114; subst hs114; subst hk2; subst hs2; rw [jdd_c0 c_13 c_19 c_61 (by omega)]) (by subst hk114; subst hs114; subst hk2; subst hs2; rw [jdd_c0 c_13 c_19 c_61 (by omega)]; exact ⟨rfl, rfl, fun j hj => rfl⟩) rfl ⟨Nat.le_of_ble_eq_true rfl, Nat.le_of_ble_eq_true rfl⟩ dX10_doDrawnDeed_120
      · refine J.aload_n g dX10_doDrawnDeed_64 rfl rfl ?_
        refine J.aload_n g dX10_doDrawnDeed_65 rfl rfl ?_
        refine J.get g jX10 2 (by decide) lf_X10_26 0 rfl rfl dX10_doDrawnDeed_66 ?_
        refine J.callV0 g (c_X0_exponent l γ _ _ _ _ _ _ _ _ _ ) jy_X0_exponent lm_X10_141 (q0 := 3) rfl jX0.1 ⟨⟨Nat.le_of_ble_eq_true rfl, Nat.le_of_ble_eq_true rfl⟩, Nat.le_of_ble_eq_true rfl, Nat.le_of_ble_eq_true rfl⟩ (Nat.le_of_ble_eq_true rfl) rfl [3, 4, 5] rfl rfl dX10_doDrawnDeed_69 ?_
        intro _ _
        dsimp only [jpush]
        refine J.callV g (c_X10_draw_u l γ _ _ _ _ _ _ _ _ _ _ _ _ _ _ _ (by omega)) jy_X10_draw lm_X10_293 (q0 := 0) rfl jX10.1 ⟨⟨Nat.le_of_ble_eq_true rfl, Nat.le_of_ble_eq_true rfl⟩, Nat.le_of_ble_eq_true rfl, Nat.le_of_ble_eq_true rfl⟩ (Nat.le_of_ble_eq_true rfl) rfl [0] rfl (fun _ => rfl) rfl dX10_doDrawnDeed_72 ?_
        intro u_72 h_72
        obtain ⟨s72, k72⟩ := u_72
        dsimp only at h_72
        obtain ⟨hs72, hk72⟩ := h_72
        dsimp only [jput, List.set_cons_zero, List.set_cons_succ, Option.toList, List.append, List.cons_append, List.nil_append, List.append_nil]
        have hb72 : k72 < ex := by rw [hk72]; exact jdv_lt (by omega)
        refine J.iconstN g 1 dX10_doDrawnDeed_75 ?_
        refine J.iaddN g dX10_doDrawnDeed_76 ?_
        refine J.istore_n g dX10_doDrawnDeed_77 rfl rfl rfl ?_
        try dsimp only [List.set_cons_zero, List.set_cons_succ]
        refine J.aload_n g dX10_doDrawnDeed_78 rfl rfl ?_
        refine J.iload_n g dX10_doDrawnDeed_79 rfl rfl ?_
        refine J.callV0 g (c_X10_canMultiply l γ _ _ _ _ _ _ _ _ _ _ _ _ _ _ _ _ _ _ _ _ _ _ _ _ _ _ hn (by omega)) jy_X10_canMultiply lm_X10_268 (q0 := 0) rfl jX10.1 ⟨⟨Nat.le_of_ble_eq_true rfl, Nat.le_of_ble_eq_true rfl⟩, Nat.le_of_ble_eq_true rfl, Nat.le_of_ble_eq_true rfl⟩ (Nat.le_of_ble_eq_true rfl) rfl [0, 1, 2, 3, 4, 5] rfl rfl dX10_doDrawnDeed_80 ?_
        intro _ _
        dsimp only [jpush]
        refine J.if_neB g dX10_doDrawnDeed_83 (tgt := 88) (by decide) (fun c_83 => ?_) (fun c_83 => ?_)
        · refine J.aload_n g dX10_doDrawnDeed_88 rfl rfl ?_
          refine J.get g jX10 3 (by decide) lf_X10_33 0 rfl rfl dX10_doDrawnDeed_89 ?_
          refine J.aload_n g dX10_doDrawnDeed_92 rfl rfl ?_
          refine J.get g jX10 2 (by decide) lf_X10_26 0 rfl rfl dX10_doDrawnDeed_93 ?_
          refine J.iload_n g dX10_doDrawnDeed_96 rfl rfl ?_
          refine J.callV g (c_X6_multiply l γ _ _ _ _ _ _ _ _ _ _ _ _ _ _ hn hT hf (by omega)) jy_X6_multiply lm_X10_239 (q0 := 1) rfl jX6.1 ⟨⟨Nat.le_of_ble_eq_true rfl, Nat.le_of_ble_eq_true rfl⟩, Nat.le_of_ble_eq_true rfl, Nat.le_of_ble_eq_true rfl⟩ (Nat.le_of_ble_eq_true rfl) rfl [1, 2, 3, 4, 5] rfl (fun _ => rfl) rfl dX10_doDrawnDeed_97 ?_
          intro u_97 h_97
          dsimp only [jput, List.set_cons_zero, List.set_cons_succ, Option.toList, List.append, List.cons_append, List.nil_append, List.append_nil]
          refine J.iconstN g 1 dX10_doDrawnDeed_100 ?_
          exact J.zret (by first | rfl | exact j_nz _) g hE (s72, n, u_97) (jB_t (by first | (subst hk2; subst hs2; rw [jdd_0 c_13]) | (subst hk2; subst hs2; rw [jdd_g0 c_13 c_19 (by omega)]) | (subst hk44; subst hs44; subst hk2; subst hs2; rw [jdd_g c_13 c_19 (by omega)]) | (subst hk72; subst hs72; subst hk2; subst hs2; rw [jdd_m0 c_13 c_19 c_61 c_83]) | (subst hk72; subst hs72; subst hk2; subst hs2; rw [jdd_m c_13 c_19 c_61 c_83]))) (by subst hk72; subst hs72; subst hk2; subst hs2; rw [jdd_m c_13 c_19 c_61 c_83]; exact ⟨rfl, rfl, fun j hj => h_97 j hj⟩) rfl ⟨Nat.le_of_ble_eq_true rfl, Nat.le_of_ble_eq_true rfl⟩ dX10_doDrawnDeed_101
        · refine J.iconstN g 0 dX10_doDrawnDeed_86 ?_
          exact J.zret (by first | rfl | exact j_nz _) g hE (s72, n, f) (jB_f (by first | (subst hk2; subst hs2; rw [jdd_0 c_13]) | (subst hk2; subst hs2; rw [jdd_g0 c_13 c_19 (by omega)]) | (subst hk44; subst hs44; subst hk2; subst hs2; rw [jdd_g c_13 c_19 (by omega)]) | (subst hk72; subst hs72; subst hk2; subst hs2; rw [jdd_m0 c_13 c_19 c_61 c_83]) | (subst hk72; subst hs72; subst hk2; subst hs2; rw [jdd_m c_13 c_19 c_61 c_83]))) (by subst hk72; subst hs72; subst hk2; subst hs2; rw [jdd_m0 c_13 c_19 c_61 c_83]; exact ⟨rfl, rfl, fun j hj => rfl⟩) rfl ⟨Nat.le_of_ble_eq_true rfl, Nat.le_of_ble_eq_true rfl⟩ dX10_doDrawnDeed_87
    · refine J.aload_n g dX10_doDrawnDeed_22 rfl rfl ?_
      refine J.get g jX10 3 (by decide) lf_X10_33 0 rfl rfl dX10_doDrawnDeed_23 ?_
      refine J.callV0 g (c_X6_length l γ _ _ _ _ ) jy_X6_length lm_X10_144 (q0 := 1) rfl jX6.1 ⟨⟨Nat.le_of_ble_eq_true rfl, Nat.le_of_ble_eq_true rfl⟩, Nat.le_of_ble_eq_true rfl, Nat.le_of_ble_eq_true rfl⟩ (Nat.le_of_ble_eq_true rfl) rfl [1, 2] rfl rfl dX10_doDrawnDeed_26 ?_
      intro _ _
      dsimp only [jpush]
      refine J.if_leN g dX10_doDrawnDeed_29 (tgt := 57) (by decide) (by omega) (fun c_29 => ?_) (fun c_29 => ?_)
      · refine J.iconstN g 0 dX10_doDrawnDeed_57 ?_
        exact J.zret (by first | rfl | exact j_nz _) g hE (s2, n, f) (jB_f (by first | (subst hk2; subst hs2; rw [jdd_0 c_13]) | (subst hk2; subst hs2; rw [jdd_g0 c_13 c_19 (by omega)]) | (subst hk44; subst hs44; subst hk2; subst hs2; rw [jdd_g c_13 c_19 (by omega)]) | (subst hk72; subst hs72; subst hk2; subst hs2; rw [jdd_m0 c_13 c_19 c_61 c_83]) | (subst hk72; subst hs72; subst hk2; subst hs2; rw [jdd_m c_13 c_19 c_61 c_83]))) (by subst hk2; subst hs2; rw [jdd_g0 c_13 c_19 (by omega)]; exact ⟨rfl, rfl, fun j hj => rfl⟩) rfl ⟨Nat.le_of_ble_eq_true rfl, Nat.le_of_ble_eq_true rfl⟩ dX10_doDrawnDeed_58
      · refine J.aload_n g dX10_doDrawnDeed_32 rfl rfl ?_
        refine J.get g jX10 3 (by decide) lf_X10_33 0 rfl rfl dX10_doDrawnDeed_33 ?_
        refine J.aload_n g dX10_doDrawnDeed_36 rfl rfl ?_
        refine J.aload_n g dX10_doDrawnDeed_37 rfl rfl ?_
        refine J.get g jX10 3 (by decide) lf_X10_33 0 rfl rfl dX10_doDrawnDeed_38 ?_
        refine J.callV0 g (c_X6_length l γ _ _ _ _ ) jy_X6_length lm_X10_144 (q0 := 1) rfl jX6.1 ⟨⟨Nat.le_of_ble_eq_true rfl, Nat.le_of_ble_eq_true rfl⟩, Nat.le_of_ble_eq_true rfl, Nat.le_of_ble_eq_true rfl⟩ (Nat.le_of_ble_eq_true rfl) rfl [1, 2] rfl rfl dX10_doDrawnDeed_41 ?_
        intro _ _
        dsimp only [jpush]
        refine J.callV g (c_X10_draw_u l γ _ _ _ _ _ _ _ _ _ _ _ _ _ _ _ (by omega)) jy_X10_draw lm_X10_293 (q0 := 0) rfl jX10.1 ⟨⟨Nat.le_of_ble_eq_true rfl, Nat.le_of_ble_eq_true rfl⟩, Nat.le_of_ble_eq_true rfl, Nat.le_of_ble_eq_true rfl⟩ (Nat.le_of_ble_eq_true rfl) rfl [0] rfl (fun _ => rfl) rfl dX10_doDrawnDeed_44 ?_
        intro u_44 h_44
        obtain ⟨s44, k44⟩ := u_44
        dsimp only at h_44
        obtain ⟨hs44, hk44⟩ := h_44
        dsimp only [jput, List.set_cons_zero, List.set_cons_succ, Option.toList, List.append, List.cons_append, List.nil_append, List.append_nil]
        refine J.callV g (c_X6_remove l γ _ _ _ _ _ hn (by rw [hk44]; exact jdv_lt (by omega))) jy_X6_remove lm_X10_265 (q0 := 1) rfl jX6.1 ⟨⟨Nat.le_of_ble_eq_true rfl, Nat.le_of_ble_eq_true rfl⟩, Nat.le_of_ble_eq_true rfl, Nat.le_of_ble_eq_true rfl⟩ (Nat.le_of_ble_eq_true rfl) rfl [1, 2] rfl (fun _ => rfl) rfl dX10_doDrawnDeed_47 ?_
        intro u_47 h_47
        dsimp only [jput, List.set_cons_zero, List.set_cons_succ, Option.toList, List.append, List.cons_append, List.nil_append, List.append_nil]
        skip
        refine J.if_eqB g dX10_doDrawnDeed_50 (tgt := 57) (by decide) (fun c_50 => absurd c_50 (by decide)) (fun c_50 => ?_)
        refine J.iconstN g 1 dX10_doDrawnDeed_53 ?_
        refine J.goto g dX10_doDrawnDeed_54 (tgt := 58) (by decide) ?_
        exact J.zret (by first | rfl | exact j_nz _) g hE (s44, n - 1, u_47) (jB_t (by first | (subst hk2; subst hs2; rw [jdd_0 c_13]) | (subst hk2; subst hs2; rw [jdd_g0 c_13 c_19 (by omega)]) | (subst hk44; subst hs44; subst hk2; subst hs2; rw [jdd_g c_13 c_19 (by omega)]) | (subst hk72; subst hs72; subst hk2; subst hs2; rw [jdd_m0 c_13 c_19 c_61 c_83]) | (subst hk72; subst hs72; subst hk2; subst hs2; rw [jdd_m c_13 c_19 c_61 c_83]))) (by subst hk44; subst hs44; subst hk2; subst hs2; rw [jdd_g c_13 c_19 (by omega)]; exact ⟨rfl, rfl, fun j hj => h_47 j⟩) rfl ⟨Nat.le_of_ble_eq_true rfl, Nat.le_of_ble_eq_true rfl⟩ dX10_doDrawnDeed_58
  · refine J.iconstN g 0 dX10_doDrawnDeed_16 ?_
    exact J.zret (by first | rfl | exact j_nz _) g hE (s2, n, f) (jB_f (by first | (subst hk2; subst hs2; rw [jdd_0 c_13]) | (subst hk2; subst hs2; rw [jdd_g0 c_13 c_19 (by omega)]) | (subst hk44; subst hs44; subst hk2; subst hs2; rw [jdd_g c_13 c_19 (by omega)]) | (subst hk72; subst hs72; subst hk2; subst hs2; rw [jdd_m0 c_13 c_19 c_61 c_83]) | (subst hk72; subst hs72; subst hk2; subst hs2; rw [jdd_m c_13 c_19 c_61 c_83]))) (by subst hk2; subst hs2; rw [jdd_0 c_13]; exact ⟨rfl, rfl, fun j hj => rfl⟩) rfl ⟨Nat.le_of_ble_eq_true rfl, Nat.le_of_ble_eq_true rfl⟩ dX10_doDrawnDeed_17
set_option maxHeartbeats 4000000 in
set_option maxRecDepth 100000 in
theorem c_X10_drawn_yes (l : Launch) (γ : jγ) (ns tp rd gr rw tr oo pa iq sr sgn pp mu : Nat) (dsd : Int32) (rwe n : Nat) (f : Nat → Nat) (mk ag cd pt od ex : Nat) (mf af : Nat → Nat) (tre trn : Nat) (trf : Nat → Nat) (rq nx pl : Nat) (ra re ln : Nat → Nat) (rf : Nat → Nat → Nat) (nn : Nat) (seed : Int32) (hn : n ≤ 12) (hT : jtab od mf af) (hf : ∀ j, j < n → f j < 24) (hx : nx < 8) (hp : pl ≤ 8) (he : ex ≤ 24) (h1 : od = 0 ∨ 1 ≤ ex) (hnn : 1 ≤ nn ∧ nn ≤ 60) : jM (S := (Int32 × Nat × (Nat → Nat)) × (Nat → Nat) × (Nat → Nat)) l γ yX10_drawn cX10_drawn 5 (some .int) ({ frames := 5, cells := 0, slots := 0, locals := 112 } : Room) [.ref ns, .int (nI nn), .int seed] [(ns, .inr (10, [.ref tp, .ref rd, .ref gr, .ref rw, .ref tr, .ref oo, .ref pa, .ref iq, .ref sr, .ref sgn, .ref pp, .ref mu, .int dsd])), (rw, .inr (6, [.ref rwe, .int (nI n)])), (rwe, .inl (γ.2 0, 12, .inl (fun j => nI (f j)))), (gr, .inr (0, [.ref mk, .ref ag, .int (nI cd), .int (nI pt), .int (nI od), .int (nI ex)])), (mk, .inl (γ.2 1, 576, .inl (fun j => nI (mf j)))), (ag, .inl (γ.2 1, 24, .inl (fun j => nI (af j)))), (tr, .inr (6, [.ref tre, .int (nI trn)])), (tre, .inl (γ.2 0, 12, .inl (fun j => nI (trf j)))), (pa, .inr (4, [.ref rq, .int (nI nx), .int (nI pl)])), (rq, .inl (γ.2 5, 8, .inr (.inr (.inr (.inr (fun i => some (ra i))))))), ((ra 0), .inr (6, [.ref (re 0), .int (nI (ln 0))])), ((re 0), .inl (γ.2 0, 12, .inl (fun j => nI ((rf 0) j)))), ((ra 1), .inr (6, [.ref (re 1), .int (nI (ln 1))])), ((re 1), .inl (γ.2 0, 12, .inl (fun j => nI ((rf 1) j)))), ((ra 2), .inr (6, [.ref (re 2), .int (nI (ln 2))])), ((re 2), .inl (γ.2 0, 12, .inl (fun j => nI ((rf 2) j)))), ((ra 3), .inr (6, [.ref (re 3), .int (nI (ln 3))])), ((re 3), .inl (γ.2 0, 12, .inl (fun j => nI ((rf 3) j)))), ((ra 4), .inr (6, [.ref (re 4), .int (nI (ln 4))])), ((re 4), .inl (γ.2 0, 12, .inl (fun j => nI ((rf 4) j)))), ((ra 5), .inr (6, [.ref (re 5), .int (nI (ln 5))])), ((re 5), .inl (γ.2 0, 12, .inl (fun j => nI ((rf 5) j)))), ((ra 6), .inr (6, [.ref (re 6), .int (nI (ln 6))])), ((re 6), .inl (γ.2 0, 12, .inl (fun j => nI ((rf 6) j)))), ((ra 7), .inr (6, [.ref (re 7), .int (nI (ln 7))])), ((re 7), .inl (γ.2 0, 12, .inl (fun j => nI ((rf 7) j))))] (fun u => some (.int (nI ((jdn od ex mf (seed, n, f) nn).1)))) (fun u => [(ns, .inr (10, [.ref tp, .ref rd, .ref gr, .ref rw, .ref tr, .ref oo, .ref pa, .ref iq, .ref sr, .ref sgn, .ref pp, .ref mu, .int u.1.1])), (rw, .inr (6, [.ref rwe, .int (nI u.1.2.1)])), (rwe, .inl (γ.2 0, 12, .inl (fun j => nI (u.1.2.2 j)))), (gr, .inr (0, [.ref mk, .ref ag, .int (nI cd), .int (nI pt), .int (nI od), .int (nI ex)])), (mk, .inl (γ.2 1, 576, .inl (fun j => nI (mf j)))), (ag, .inl (γ.2 1, 24, .inl (fun j => nI (af j)))), (tr, .inr (6, [.ref tre, .int (nI n)])), (tre, .inl (γ.2 0, 12, .inl (fun j => nI (u.2.1 j)))), (pa, .inr (4, [.ref rq, .int (nI (if 0 < (jdn od ex mf (seed, n, f) nn).1 then (if nx + 1 < 8 then nx + 1 else 0) else nx)), .int (nI (if 0 < (jdn od ex mf (seed, n, f) nn).1 then (if 8 < pl + 1 then 8 else pl + 1) else pl))])), (rq, .inl (γ.2 5, 8, .inr (.inr (.inr (.inr (fun i => some (ra i))))))), ((ra 0), .inr (6, [.ref (re 0), .int (nI ((if 0 < (jdn od ex mf (seed, n, f) nn).1 then va_up ln nx n else ln) 0))])), ((re 0), .inl (γ.2 0, 12, .inl (fun j => nI (((if 0 < (jdn od ex mf (seed, n, f) nn).1 then va_up rf nx u.2.2 else rf) 0) j)))), ((ra 1), .inr (6, [.ref (re 1), .int (nI ((if 0 < (jdn od ex mf (seed, n, f) nn).1 then va_up ln nx n else ln) 1))])), ((re 1), .inl (γ.2 0, 12, .inl (fun j => nI (((if 0 < (jdn od ex mf (seed, n, f) nn).1 then va_up rf nx u.2.2 else rf) 1) j)))), ((ra 2), .inr (6, [.ref (re 2), .int (nI ((if 0 < (jdn od ex mf (seed, n, f) nn).1 then va_up ln nx n else ln) 2))])), ((re 2), .inl (γ.2 0, 12, .inl (fun j => nI (((if 0 < (jdn od ex mf (seed, n, f) nn).1 then va_up rf nx u.2.2 else rf) 2) j)))), ((ra 3), .inr (6, [.ref (re 3), .int (nI ((if 0 < (jdn od ex mf (seed, n, f) nn).1 then va_up ln nx n else ln) 3))])), ((re 3), .inl (γ.2 0, 12, .inl (fun j => nI (((if 0 < (jdn od ex mf (seed, n, f) nn).1 then va_up rf nx u.2.2 else rf) 3) j)))), ((ra 4), .inr (6, [.ref (re 4), .int (nI ((if 0 < (jdn od ex mf (seed, n, f) nn).1 then va_up ln nx n else ln) 4))])), ((re 4), .inl (γ.2 0, 12, .inl (fun j => nI (((if 0 < (jdn od ex mf (seed, n, f) nn).1 then va_up rf nx u.2.2 else rf) 4) j)))), ((ra 5), .inr (6, [.ref (re 5), .int (nI ((if 0 < (jdn od ex mf (seed, n, f) nn).1 then va_up ln nx n else ln) 5))])), ((re 5), .inl (γ.2 0, 12, .inl (fun j => nI (((if 0 < (jdn od ex mf (seed, n, f) nn).1 then va_up rf nx u.2.2 else rf) 5) j)))), ((ra 6), .inr (6, [.ref (re 6), .int (nI ((if 0 < (jdn od ex mf (seed, n, f) nn).1 then va_up ln nx n else ln) 6))])), ((re 6), .inl (γ.2 0, 12, .inl (fun j => nI (((if 0 < (jdn od ex mf (seed, n, f) nn).1 then va_up rf nx u.2.2 else rf) 6) j)))), ((ra 7), .inr (6, [.ref (re 7), .int (nI ((if 0 < (jdn od ex mf (seed, n, f) nn).1 then va_up ln nx n else ln) 7))])), ((re 7), .inl (γ.2 0, 12, .inl (fun j => nI (((if 0 < (jdn od ex mf (seed, n, f) nn).1 then va_up rf nx u.2.2 else rf) 7) j))))]) (fun u => jdAg u.1 (jdn od ex mf (seed, n, f) nn).2 ∧ ∀ j, j < n → u.2.2 j = f j) := by
  refine jM.of [some (.ref ns), some (.int (nI nn)), some (.int seed), none, none] rfl (Nat.le_of_ble_eq_true rfl) (by decide) ?_
  intro x g hE hin
  refine J.iload_n g dX10_drawn_0 rfl rfl ?_
  refine J.iconstN g 1 dX10_drawn_1 ?_
  refine J.icmp_ltN g dX10_drawn_2 (tgt := 11) (by decide) (by omega) (by omega) (fun c_2 => absurd c_2 (by omega)) (fun c_2 => ?_)
  refine J.iload_n g dX10_drawn_5 rfl rfl ?_
  refine J.bipush (v := nI 60) g dX10_drawn_6 (by decide +kernel) ?_
  refine J.icmp_leN g dX10_drawn_8 (tgt := 13) (by decide) (by omega) (by omega) (fun c_8 => ?_) (fun c_8 => absurd c_8 (by omega))
  refine J.aload_n g dX10_drawn_13 rfl rfl ?_
  refine J.get g jX10 4 (by decide) lf_X10_37 0 rfl rfl dX10_drawn_14 ?_
  refine J.aload_n g dX10_drawn_17 rfl rfl ?_
  refine J.get g jX10 3 (by decide) lf_X10_33 0 rfl rfl dX10_drawn_18 ?_
  refine J.callV g (c_X6_copyFrom l γ _ _ _ _ _ _ _ _ hn) jy_X6_copyFrom lm_X10_122 (q0 := 6) rfl jX6.1 ⟨⟨Nat.le_of_ble_eq_true rfl, Nat.le_of_ble_eq_true rfl⟩, Nat.le_of_ble_eq_true rfl, Nat.le_of_ble_eq_true rfl⟩ (Nat.le_of_ble_eq_true rfl) rfl [6, 7, 1, 2] rfl (fun _ => rfl) rfl dX10_drawn_21 ?_
  intro u_21 h_21
  dsimp only [jput, List.set_cons_zero, List.set_cons_succ, Option.toList, List.append, List.cons_append, List.nil_append, List.append_nil]
  have hjl : ∀ i, (jdn od ex mf (seed, n, f) i).1 ≤ i := fun i => jdn_le i
  have hjo := fun i => jdn_ok (od := od) (ex := ex) (q := (seed, n, f)) hT hn hf i
  refine J.aload_n g dX10_drawn_24 rfl rfl ?_
  refine J.iload_n g dX10_drawn_25 rfl rfl ?_
  refine J.put g jX10 12 (by decide) lf_X10_85 0 rfl rfl (Nat.le_of_ble_eq_true rfl) rfl rfl dX10_drawn_26 ?_
  try dsimp only [List.set_cons_zero, List.set_cons_succ]
  refine J.iconstN g 0 dX10_drawn_29 ?_
  refine J.istore_n g dX10_drawn_30 rfl rfl rfl ?_
  try dsimp only [List.set_cons_zero, List.set_cons_succ]
  refine J.iconstN g 0 dX10_drawn_31 ?_
  refine J.istore g dX10_drawn_32 rfl rfl ?_
  try dsimp only [List.set_cons_zero, List.set_cons_succ]
  have lp : ∀ (d : Nat) (i : Nat) (v : Int32 × Nat × (Nat → Nat)), nn - i < d → (i ≤ nn) → (jdAg v (jdn od ex mf (seed, n, f) i).2) → J γ l x [(ns, .inr (10, [.ref tp, .ref rd, .ref gr, .ref rw, .ref tr, .ref oo, .ref pa, .ref iq, .ref sr, .ref sgn, .ref pp, .ref mu, .int v.1])), (rw, .inr (6, [.ref rwe, .int (nI v.2.1)])), (rwe, .inl (γ.2 0, 12, .inl (fun j => nI (v.2.2 j)))), (gr, .inr (0, [.ref mk, .ref ag, .int (nI cd), .int (nI pt), .int (nI od), .int (nI ex)])), (mk, .inl (γ.2 1, 576, .inl (fun j => nI (mf j)))), (ag, .inl (γ.2 1, 24, .inl (fun j => nI (af j)))), (tr, .inr (6, [.ref tre, .int (nI n)])), (tre, .inl (γ.2 0, 12, .inl (fun j => nI (u_21 j)))), (pa, .inr (4, [.ref rq, .int (nI nx), .int (nI pl)])), (rq, .inl (γ.2 5, 8, .inr (.inr (.inr (.inr (fun i => some (ra i))))))), ((ra 0), .inr (6, [.ref (re 0), .int (nI (ln 0))])), ((re 0), .inl (γ.2 0, 12, .inl (fun j => nI ((rf 0) j)))), ((ra 1), .inr (6, [.ref (re 1), .int (nI (ln 1))])), ((re 1), .inl (γ.2 0, 12, .inl (fun j => nI ((rf 1) j)))), ((ra 2), .inr (6, [.ref (re 2), .int (nI (ln 2))])), ((re 2), .inl (γ.2 0, 12, .inl (fun j => nI ((rf 2) j)))), ((ra 3), .inr (6, [.ref (re 3), .int (nI (ln 3))])), ((re 3), .inl (γ.2 0, 12, .inl (fun j => nI ((rf 3) j)))), ((ra 4), .inr (6, [.ref (re 4), .int (nI (ln 4))])), ((re 4), .inl (γ.2 0, 12, .inl (fun j => nI ((rf 4) j)))), ((ra 5), .inr (6, [.ref (re 5), .int (nI (ln 5))])), ((re 5), .inl (γ.2 0, 12, .inl (fun j => nI ((rf 5) j)))), ((ra 6), .inr (6, [.ref (re 6), .int (nI (ln 6))])), ((re 6), .inl (γ.2 0, 12, .inl (fun j => nI ((rf 6) j)))), ((ra 7), .inr (6, [.ref (re 7), .int (nI (ln 7))])), ((re 7), .inl (γ.2 0, 12, .inl (fun j => nI ((rf 7) j))))] [some (.ref ns), some (.int (nI nn)), some (.int seed), some (.int (nI ((jdn od ex mf (seed, n, f) i).1))), some (.int (nI i))] [] 0 0 34 := by
    intro d
    induction d with
    | zero => intro i v hm; exact absurd hm (Nat.not_lt_zero _)
    | succ d ih_lp =>
      intro i v hm hi hv
      refine J.iload g dX10_drawn_34 rfl ?_
      refine J.iload_n g dX10_drawn_36 rfl rfl ?_
      refine J.icmp_geN g dX10_drawn_37 (tgt := 56) (by decide) (by omega) (by omega) (fun c_37 => ?_) (fun c_37 => ?_)
      · obtain rfl : i = nn := by omega
        have hji := hjl i
        refine J.iload_n g dX10_drawn_56 rfl rfl ?_
        refine J.if_leN g dX10_drawn_57 (tgt := 71) (by decide) (by omega) (fun c_57 => ?_) (fun c_57 => ?_)
        · refine J.iload_n g dX10_drawn_71 rfl rfl ?_
          exact J.iret g hE (v, u_21, f) rfl ⟨hv, fun j hj => rfl⟩ (by first | (rw [if_pos (show 0 < (jdn od ex mf (seed, n, f) i).1 by omega), if_pos (show 0 < (jdn od ex mf (seed, n, f) i).1 by omega), if_pos (show 0 < (jdn od ex mf (seed, n, f) i).1 by omega), if_pos (show 0 < (jdn od ex mf (seed, n, f) i).1 by omega)]) | (rw [if_neg (show ¬ 0 < (jdn od ex mf (seed, n, f) i).1 by omega), if_neg (show ¬ 0 < (jdn od ex mf (seed, n, f) i).1 by omega), if_neg (show ¬ 0 < (jdn od ex mf (seed, n, f) i).1 by omega), if_neg (show ¬ 0 < (jdn od ex mf (seed, n, f) i).1 by omega)])) ⟨Nat.le_of_ble_eq_true rfl, Nat.le_of_ble_eq_true rfl⟩ dX10_drawn_72
        · refine J.aload_n g dX10_drawn_60 rfl rfl ?_
          refine J.get g jX10 6 (by decide) lf_X10_46 0 rfl rfl dX10_drawn_61 ?_
          refine J.aload_n g dX10_drawn_64 rfl rfl ?_
          refine J.get g jX10 4 (by decide) lf_X10_37 0 rfl rfl dX10_drawn_65 ?_
          refine J.callV g (c_X4_keep l γ _ _ _ _ _ _ _ _ _ _ _ _ hx hp hn) jy_X4_keep lm_X10_259 (q0 := 8) rfl jX4.1 ⟨⟨Nat.le_of_ble_eq_true rfl, Nat.le_of_ble_eq_true rfl⟩, Nat.le_of_ble_eq_true rfl, Nat.le_of_ble_eq_true rfl⟩ (Nat.le_of_ble_eq_true rfl) rfl [8, 9, 10, 11, 12, 13, 14, 15, 16, 17, 18, 19, 20, 21, 22, 23, 24, 25, 6, 7] rfl (fun _ => rfl) rfl dX10_drawn_68 ?_
          intro u_68 h_68
          dsimp only [jput, List.set_cons_zero, List.set_cons_succ, Option.toList, List.append, List.cons_append, List.nil_append, List.append_nil]
          skip
          refine J.iload_n g dX10_drawn_71 rfl rfl ?_
          exact J.iret g hE (v, u_21, u_68) rfl ⟨hv, fun j hj => (h_68 j hj).trans (h_21 j hj)⟩ (by first | (rw [if_pos (show 0 < (jdn od ex mf (seed, n, f) i).1 by omega), if_pos (show 0 < (jdn od ex mf (seed, n, f) i).1 by omega), if_pos (show 0 < (jdn od ex mf (seed, n, f) i).1 by omega), if_pos (show 0 < (jdn od ex mf (seed, n, f) i).1 by omega)]) | (rw [if_neg (show ¬ 0 < (jdn od ex mf (seed, n, f) i).1 by omega), if_neg (show ¬ 0 < (jdn od ex mf (seed, n, f) i).1 by omega), if_neg (show ¬ 0 < (jdn od ex mf (seed, n, f) i).1 by omega), if_neg (show ¬ 0 < (jdn od ex mf (seed, n, f) i).1 by omega)])) ⟨Nat.le_of_ble_eq_true rfl, Nat.le_of_ble_eq_true rfl⟩ dX10_drawn_72
      · refine J.aload_n g dX10_drawn_40 rfl rfl ?_
        refine J.callV g (c_X10_doDrawnDeed l γ _ _ _ _ _ _ _ _ _ _ _ _ _ _ _ _ _ _ _ _ _ _ _ _ _ (by rw [hv.2.1]; exact (hjo i).1) hT (fun j hj => by rw [hv.2.2 j hj]; exact (hjo i).2 j (by rw [← hv.2.1]; exact hj)) he h1) jy_X10_doDrawnDeed lm_X10_271 (q0 := 0) rfl jX10.1 ⟨⟨Nat.le_of_ble_eq_true rfl, Nat.le_of_ble_eq_true rfl⟩, Nat.le_of_ble_eq_true rfl, Nat.le_of_ble_eq_true rfl⟩ (Nat.le_of_ble_eq_true rfl) rfl [0, 1, 2, 3, 4, 5] rfl (fun _ => rfl) rfl dX10_drawn_41 ?_
        intro u_41 h_41
        dsimp only [jput, List.set_cons_zero, List.set_cons_succ, Option.toList, List.append, List.cons_append, List.nil_append, List.append_nil]
        have hdg := jdd_ag (od := od) (ex := ex) (mf := mf) hv
        have hvn : jdAg u_41 (jdn od ex mf (seed, n, f) (i + 1)).2 := ⟨h_41.1.trans hdg.2.1, h_41.2.1.trans hdg.2.2.1, fun j hj => (h_41.2.2 j hj).trans (hdg.2.2.2 j (by rw [← h_41.2.1]; exact hj))⟩
        refine J.if_eqB g dX10_drawn_44 (tgt := 50) (by decide) (fun c_44 => ?_) (fun c_44 => ?_)
        · have hq : (jdn od ex mf (seed, n, f) (i + 1)).1 = (jdn od ex mf (seed, n, f) i).1 := if_neg (by rw [← hdg.1, c_44]; decide)
          refine J.iincN g 1 dX10_drawn_50 rfl rfl ?_
          try dsimp only [List.set_cons_zero, List.set_cons_succ]
          refine J.goto g dX10_drawn_53 (tgt := 34) (by decide) ?_
          have ih2 := ih_lp (i + 1) u_41 (by omega) (by omega) hvn
          rw [hq] at ih2
          exact J.lvle (jle_s (jle_s (jle_s (jle_s (jle_s jle_0))))) ih2
        · have hq : (jdn od ex mf (seed, n, f) (i + 1)).1 = (jdn od ex mf (seed, n, f) i).1 + 1 := if_pos (by rw [← hdg.1]; exact c_44)
          refine J.iincN g 1 dX10_drawn_47 rfl rfl ?_
          try dsimp only [List.set_cons_zero, List.set_cons_succ]
          refine J.iincN g 1 dX10_drawn_50 rfl rfl ?_
          try dsimp only [List.set_cons_zero, List.set_cons_succ]
          refine J.goto g dX10_drawn_53 (tgt := 34) (by decide) ?_
          have ih2 := ih_lp (i + 1) u_41 (by omega) (by omega) hvn
          rw [hq] at ih2
          exact J.lvle (jle_s (jle_s (jle_s (jle_s (jle_s jle_0))))) ih2
  exact J.lvle (jle_s (jle_s (jle_s (jle_s (jle_s jle_0))))) (lp _ 0 (seed, n, f) (Nat.lt_succ_self _) (by omega) ⟨rfl, rfl, fun j hj => rfl⟩)
set_option maxHeartbeats 4000000 in
set_option maxRecDepth 100000 in
theorem c_X10_drawn_no (l : Launch) (γ : jγ) (ns tp rd gr rw tr oo pa iq sr sgn pp mu : Nat) (dsd : Int32) (w sd : Int32) (hw : w < nI 1 ∨ nI 60 < w) : jM (S := Unit) l γ yX10_drawn cX10_drawn 5 (some .int) ({ frames := 5, cells := 0, slots := 0, locals := 112 } : Room) [.ref ns, .int w, .int sd] [(ns, .inr (10, [.ref tp, .ref rd, .ref gr, .ref rw, .ref tr, .ref oo, .ref pa, .ref iq, .ref sr, .ref sgn, .ref pp, .ref mu, .int dsd]))] (fun w0 => some (.int (-1))) (fun w0 => [(ns, .inr (10, [.ref tp, .ref rd, .ref gr, .ref rw, .ref tr, .ref oo, .ref pa, .ref iq, .ref sr, .ref sgn, .ref pp, .ref mu, .int dsd]))]) (fun w0 => True) := by
  refine jM.of [some (.ref ns), some (.int w), some (.int sd), none, none] rfl (Nat.le_of_ble_eq_true rfl) (by decide) ?_
  intro x g hE hin
  refine J.iload_n g dX10_drawn_0 rfl rfl ?_
  refine J.iconstN g 1 dX10_drawn_1 ?_
  refine J.icmp_lt g dX10_drawn_2 (tgt := 11) (by decide) (fun c_2 => ?_) (fun c_2 => ?_)
  · refine J.iconst (v := -1) g dX10_drawn_11 (by decide) ?_
    exact J.iret g hE () rfl trivial rfl ⟨Nat.le_of_ble_eq_true rfl, Nat.le_of_ble_eq_true rfl⟩ dX10_drawn_12
  · refine J.iload_n g dX10_drawn_5 rfl rfl ?_
    refine J.bipush (v := nI 60) g dX10_drawn_6 (by decide +kernel) ?_
    refine J.icmp_le g dX10_drawn_8 (tgt := 13) (by decide) (fun c_8 => absurd c_8 (fun z => hw.elim c_2 (fun h => Int32.not_lt.mpr z h))) (fun c_8 => ?_)
    refine J.iconst (v := -1) g dX10_drawn_11 (by decide) ?_
    exact J.iret g hE () rfl trivial rfl ⟨Nat.le_of_ble_eq_true rfl, Nat.le_of_ble_eq_true rfl⟩ dX10_drawn_12
set_option maxHeartbeats 4000000 in
set_option maxRecDepth 100000 in
theorem c_X10_studyMultisets_yes (l : Launch) (γ : jγ) (ns tp rd gr rw tr oo pa iq sr sgn pp mu : Nat) (dsd : Int32) (mk ag cd pt od ex : Nat) (mf af : Nat → Nat) (ct gw ge fw fe sg gl fl : Nat) (C gf ff : Nat → Nat) (hG : gIs cd pt od ex mf af) (ho : 1 ≤ od ∧ od ≤ 12) (hsg : sg < 2 ^ 15) (hV : sg ≠ 0 → mPV sg C fl ff) : jM (S := (Nat → Nat) × (Nat × (Nat → Nat)) × (Nat × (Nat → Nat))) l γ yX10_studyMultisets cX10_studyMultisets 1 (some .boolean) ({ frames := 32, cells := 0, slots := 0, locals := 647 } : Room) [.ref ns] [(ns, .inr (10, [.ref tp, .ref rd, .ref gr, .ref rw, .ref tr, .ref oo, .ref pa, .ref iq, .ref sr, .ref sgn, .ref pp, .ref mu, .int dsd])), (mu, .inr (2, [.ref ct, .ref gw, .ref fw, .int (nI sg)])), (ct, .inl (γ.2 0, 13, .inl (fun j => nI (C j)))), (gw, .inr (6, [.ref ge, .int (nI gl)])), (ge, .inl (γ.2 0, 12, .inl (fun j => nI (gf j)))), (fw, .inr (6, [.ref fe, .int (nI fl)])), (fe, .inl (γ.2 0, 12, .inl (fun j => nI (ff j)))), (gr, .inr (0, [.ref mk, .ref ag, .int (nI cd), .int (nI pt), .int (nI od), .int (nI ex)])), (mk, .inl (γ.2 1, 576, .inl (fun j => nI (mf j)))), (ag, .inl (γ.2 1, 24, .inl (fun j => nI (af j))))] (fun u => some (.int (jB true))) (fun u => [(ns, .inr (10, [.ref tp, .ref rd, .ref gr, .ref rw, .ref tr, .ref oo, .ref pa, .ref iq, .ref sr, .ref sgn, .ref pp, .ref mu, .int dsd])), (mu, .inr (2, [.ref ct, .ref gw, .ref fw, .int (nI cd)])), (ct, .inl (γ.2 0, 13, .inl (fun j => nI (u.1 j)))), (gw, .inr (6, [.ref ge, .int (nI u.2.1.1)])), (ge, .inl (γ.2 0, 12, .inl (fun j => nI (u.2.1.2 j)))), (fw, .inr (6, [.ref fe, .int (nI u.2.2.1)])), (fe, .inl (γ.2 0, 12, .inl (fun j => nI (u.2.2.2 j)))), (gr, .inr (0, [.ref mk, .ref ag, .int (nI cd), .int (nI pt), .int (nI od), .int (nI ex)])), (mk, .inl (γ.2 1, 576, .inl (fun j => nI (mf j)))), (ag, .inl (γ.2 1, 24, .inl (fun j => nI (af j))))]) (fun u => mPV cd u.1 u.2.2.1 u.2.2.2) := by
  refine jM.of [some (.ref ns)] rfl (Nat.le_of_ble_eq_true rfl) (by decide) ?_
  intro x g hE hin
  refine J.aload_n g dX10_studyMultisets_0 rfl rfl ?_
  refine J.get g jX10 2 (by decide) lf_X10_26 0 rfl rfl dX10_studyMultisets_1 ?_
  refine J.callV0 g (c_X0_order l γ _ _ _ _ _ _ _ _ _ ) jy_X0_order lm_X10_138 (q0 := 7) rfl jX0.1 ⟨⟨Nat.le_of_ble_eq_true rfl, Nat.le_of_ble_eq_true rfl⟩, Nat.le_of_ble_eq_true rfl, Nat.le_of_ble_eq_true rfl⟩ (Nat.le_of_ble_eq_true rfl) rfl [7, 8, 9] rfl rfl dX10_studyMultisets_4 ?_
  intro _ _
  dsimp only [jpush]
  refine J.iconstN g 1 dX10_studyMultisets_7 ?_
  refine J.icmp_ltN g dX10_studyMultisets_8 (tgt := 23) (by decide) (by omega) (by omega) (fun c_8 => absurd c_8 (by omega)) (fun c_8 => ?_)
  refine J.aload_n g dX10_studyMultisets_11 rfl rfl ?_
  refine J.get g jX10 2 (by decide) lf_X10_26 0 rfl rfl dX10_studyMultisets_12 ?_
  refine J.callV0 g (c_X0_order l γ _ _ _ _ _ _ _ _ _ ) jy_X0_order lm_X10_138 (q0 := 7) rfl jX0.1 ⟨⟨Nat.le_of_ble_eq_true rfl, Nat.le_of_ble_eq_true rfl⟩, Nat.le_of_ble_eq_true rfl, Nat.le_of_ble_eq_true rfl⟩ (Nat.le_of_ble_eq_true rfl) rfl [7, 8, 9] rfl rfl dX10_studyMultisets_15 ?_
  intro _ _
  dsimp only [jpush]
  refine J.bipush (v := nI 12) g dX10_studyMultisets_18 (by decide +kernel) ?_
  refine J.icmp_leN g dX10_studyMultisets_20 (tgt := 25) (by decide) (by omega) (by omega) (fun c_20 => ?_) (fun c_20 => absurd c_20 (by omega))
  refine J.aload_n g dX10_studyMultisets_25 rfl rfl ?_
  refine J.get g jX10 11 (by decide) lf_X10_81 0 rfl rfl dX10_studyMultisets_26 ?_
  refine J.aload_n g dX10_studyMultisets_29 rfl rfl ?_
  refine J.get g jX10 2 (by decide) lf_X10_26 0 rfl rfl dX10_studyMultisets_30 ?_
  refine J.callV g (c_X2_study l γ _ _ _ _ _ _ _ _ _ _ _ _ _ _ _ _ _ _ _ _ _ hG (fun z => by have := hG.2.2.1; rw [z] at this; have h0 : god 0 = 0 := (by decide +kernel); omega) hsg hV) jy_X2_study lm_X10_289 (q0 := 1) rfl jX2.1 ⟨⟨Nat.le_of_ble_eq_true rfl, Nat.le_of_ble_eq_true rfl⟩, Nat.le_of_ble_eq_true rfl, Nat.le_of_ble_eq_true rfl⟩ (Nat.le_of_ble_eq_true rfl) rfl [1, 2, 3, 4, 5, 6, 7, 8, 9] rfl (fun _ => rfl) rfl dX10_studyMultisets_33 ?_
  intro u_33 h_33
  dsimp only [jput, List.set_cons_zero, List.set_cons_succ, Option.toList, List.append, List.cons_append, List.nil_append, List.append_nil]
  refine J.iconstN g 1 dX10_studyMultisets_36 ?_
  exact J.zret (by first | rfl | exact j_nz _) g hE u_33 (jB_t (by rfl)) h_33 rfl ⟨Nat.le_of_ble_eq_true rfl, Nat.le_of_ble_eq_true rfl⟩ dX10_studyMultisets_37
set_option maxHeartbeats 4000000 in
set_option maxRecDepth 100000 in
theorem c_X10_studyMultisets_no (l : Launch) (γ : jγ) (ns tp rd gr rw tr oo pa iq sr sgn pp mu : Nat) (dsd : Int32) (mk ag cd pt od ex : Nat) (mf af : Nat → Nat) (h24 : od ≤ 24) (ho : ¬ (1 ≤ od ∧ od ≤ 12)) : jM (S := Unit) l γ yX10_studyMultisets cX10_studyMultisets 1 (some .boolean) ({ frames := 32, cells := 0, slots := 0, locals := 647 } : Room) [.ref ns] [(ns, .inr (10, [.ref tp, .ref rd, .ref gr, .ref rw, .ref tr, .ref oo, .ref pa, .ref iq, .ref sr, .ref sgn, .ref pp, .ref mu, .int dsd])), (gr, .inr (0, [.ref mk, .ref ag, .int (nI cd), .int (nI pt), .int (nI od), .int (nI ex)])), (mk, .inl (γ.2 1, 576, .inl (fun j => nI (mf j)))), (ag, .inl (γ.2 1, 24, .inl (fun j => nI (af j))))] (fun w0 => some (.int (jB false))) (fun w0 => [(ns, .inr (10, [.ref tp, .ref rd, .ref gr, .ref rw, .ref tr, .ref oo, .ref pa, .ref iq, .ref sr, .ref sgn, .ref pp, .ref mu, .int dsd])), (gr, .inr (0, [.ref mk, .ref ag, .int (nI cd), .int (nI pt), .int (nI od), .int (nI ex)])), (mk, .inl (γ.2 1, 576, .inl (fun j => nI (mf j)))), (ag, .inl (γ.2 1, 24, .inl (fun j => nI (af j))))]) (fun w0 => True) := by
  refine jM.of [some (.ref ns)] rfl (Nat.le_of_ble_eq_true rfl) (by decide) ?_
  intro x g hE hin
  refine J.aload_n g dX10_studyMultisets_0 rfl rfl ?_
  refine J.get g jX10 2 (by decide) lf_X10_26 0 rfl rfl dX10_studyMultisets_1 ?_
  refine J.callV0 g (c_X0_order l γ _ _ _ _ _ _ _ _ _ ) jy_X0_order lm_X10_138 (q0 := 1) rfl jX0.1 ⟨⟨Nat.le_of_ble_eq_true rfl, Nat.le_of_ble_eq_true rfl⟩, Nat.le_of_ble_eq_true rfl, Nat.le_of_ble_eq_true rfl⟩ (Nat.le_of_ble_eq_true rfl) rfl [1, 2, 3] rfl rfl dX10_studyMultisets_4 ?_
  intro _ _
  dsimp only [jpush]
  refine J.iconstN g 1 dX10_studyMultisets_7 ?_
  refine J.icmp_ltN g dX10_studyMultisets_8 (tgt := 23) (by decide) (by omega) (by omega) (fun c_8 => ?_) (fun c_8 => ?_)
  · refine J.iconstN g 0 dX10_studyMultisets_23 ?_
    exact J.zret (by first | rfl | exact j_nz _) g hE () (jB_f (by rfl)) trivial rfl ⟨Nat.le_of_ble_eq_true rfl, Nat.le_of_ble_eq_true rfl⟩ dX10_studyMultisets_24
  · refine J.aload_n g dX10_studyMultisets_11 rfl rfl ?_
    refine J.get g jX10 2 (by decide) lf_X10_26 0 rfl rfl dX10_studyMultisets_12 ?_
    refine J.callV0 g (c_X0_order l γ _ _ _ _ _ _ _ _ _ ) jy_X0_order lm_X10_138 (q0 := 1) rfl jX0.1 ⟨⟨Nat.le_of_ble_eq_true rfl, Nat.le_of_ble_eq_true rfl⟩, Nat.le_of_ble_eq_true rfl, Nat.le_of_ble_eq_true rfl⟩ (Nat.le_of_ble_eq_true rfl) rfl [1, 2, 3] rfl rfl dX10_studyMultisets_15 ?_
    intro _ _
    dsimp only [jpush]
    refine J.bipush (v := nI 12) g dX10_studyMultisets_18 (by decide +kernel) ?_
    refine J.icmp_leN g dX10_studyMultisets_20 (tgt := 25) (by decide) (by omega) (by omega) (fun c_20 => absurd c_20 (by omega)) (fun c_20 => ?_)
    refine J.iconstN g 0 dX10_studyMultisets_23 ?_
    exact J.zret (by first | rfl | exact j_nz _) g hE () (jB_f (by rfl)) trivial rfl ⟨Nat.le_of_ble_eq_true rfl, Nat.le_of_ble_eq_true rfl⟩ dX10_studyMultisets_24
set_option maxHeartbeats 4000000 in
set_option maxRecDepth 100000 in
theorem c_X10_frees_yes (l : Launch) (γ : jγ) (ns tp rd gr rw tr oo pa iq sr sgn pp mu : Nat) (dsd : Int32) (mk ag cd pt od ex : Nat) (mf af : Nat → Nat) (ct gw ge fw fe sg gl fl : Nat) (C gf ff : Nat → Nat) (k : Nat) (hG : gIs cd pt od ex mf af) (ho : 1 ≤ od ∧ od ≤ 12) (hsg : sg < 2 ^ 15) (hV : sg ≠ 0 → mPV sg C fl ff) (hk : k ≤ 12) : jM (S := (Nat → Nat) × (Nat × (Nat → Nat)) × (Nat × (Nat → Nat))) l γ yX10_frees cX10_frees 2 (some .int) ({ frames := 33, cells := 0, slots := 0, locals := 667 } : Room) [.ref ns, .int (nI k)] [(ns, .inr (10, [.ref tp, .ref rd, .ref gr, .ref rw, .ref tr, .ref oo, .ref pa, .ref iq, .ref sr, .ref sgn, .ref pp, .ref mu, .int dsd])), (mu, .inr (2, [.ref ct, .ref gw, .ref fw, .int (nI sg)])), (ct, .inl (γ.2 0, 13, .inl (fun j => nI (C j)))), (gw, .inr (6, [.ref ge, .int (nI gl)])), (ge, .inl (γ.2 0, 12, .inl (fun j => nI (gf j)))), (fw, .inr (6, [.ref fe, .int (nI fl)])), (fe, .inl (γ.2 0, 12, .inl (fun j => nI (ff j)))), (gr, .inr (0, [.ref mk, .ref ag, .int (nI cd), .int (nI pt), .int (nI od), .int (nI ex)])), (mk, .inl (γ.2 1, 576, .inl (fun j => nI (mf j)))), (ag, .inl (γ.2 1, 24, .inl (fun j => nI (af j))))] (fun u => some (.int (nI ((mT cd).1 k)))) (fun u => [(ns, .inr (10, [.ref tp, .ref rd, .ref gr, .ref rw, .ref tr, .ref oo, .ref pa, .ref iq, .ref sr, .ref sgn, .ref pp, .ref mu, .int dsd])), (mu, .inr (2, [.ref ct, .ref gw, .ref fw, .int (nI cd)])), (ct, .inl (γ.2 0, 13, .inl (fun j => nI (u.1 j)))), (gw, .inr (6, [.ref ge, .int (nI u.2.1.1)])), (ge, .inl (γ.2 0, 12, .inl (fun j => nI (u.2.1.2 j)))), (fw, .inr (6, [.ref fe, .int (nI u.2.2.1)])), (fe, .inl (γ.2 0, 12, .inl (fun j => nI (u.2.2.2 j)))), (gr, .inr (0, [.ref mk, .ref ag, .int (nI cd), .int (nI pt), .int (nI od), .int (nI ex)])), (mk, .inl (γ.2 1, 576, .inl (fun j => nI (mf j)))), (ag, .inl (γ.2 1, 24, .inl (fun j => nI (af j))))]) (fun u => mPV cd u.1 u.2.2.1 u.2.2.2) := by
  refine jM.of [some (.ref ns), some (.int (nI k))] rfl (Nat.le_of_ble_eq_true rfl) (by decide) ?_
  intro x g hE hin
  refine J.iload_n g dX10_frees_0 rfl rfl ?_
  refine J.if_ltN g dX10_frees_1 (tgt := 17) (by decide) (by omega) ?_
  refine J.iload_n g dX10_frees_4 rfl rfl ?_
  refine J.bipush (v := nI 12) g dX10_frees_5 (by decide +kernel) ?_
  refine J.icmp_gtN g dX10_frees_7 (tgt := 17) (by decide) (by omega) (by omega) (fun c_7 => absurd c_7 (by omega)) (fun c_7 => ?_)
  refine J.aload_n g dX10_frees_10 rfl rfl ?_
  refine J.callV g (c_X10_studyMultisets_yes l γ _ _ _ _ _ _ _ _ _ _ _ _ _ _ _ _ _ _ _ _ _ _ _ _ _ _ _ _ _ _ _ _ _ hG ho hsg hV) jy_X10_studyMultisets lm_X10_247 (q0 := 0) rfl jX10.1 ⟨⟨Nat.le_of_ble_eq_true rfl, Nat.le_of_ble_eq_true rfl⟩, Nat.le_of_ble_eq_true rfl, Nat.le_of_ble_eq_true rfl⟩ (Nat.le_of_ble_eq_true rfl) rfl [0, 1, 2, 3, 4, 5, 6, 7, 8, 9] rfl (fun _ => rfl) rfl dX10_frees_11 ?_
  intro u_11 h_11
  dsimp only [jput, List.set_cons_zero, List.set_cons_succ, Option.toList, List.append, List.cons_append, List.nil_append, List.append_nil]
  refine J.if_neB g dX10_frees_14 (tgt := 19) (by decide) (fun c_14 => ?_) (fun c_14 => absurd c_14 (by simp at c_14))
  refine J.aload_n g dX10_frees_19 rfl rfl ?_
  refine J.get g jX10 11 (by decide) lf_X10_81 0 rfl rfl dX10_frees_20 ?_
  refine J.iload_n g dX10_frees_23 rfl rfl ?_
  refine J.callV0 g (c_X2_howManyOf l γ _ _ _ _ _ _ _ _ _ _ _ _ _ hk) jy_X2_howManyOf lm_X10_250 (q0 := 1) rfl jX2.1 ⟨⟨Nat.le_of_ble_eq_true rfl, Nat.le_of_ble_eq_true rfl⟩, Nat.le_of_ble_eq_true rfl, Nat.le_of_ble_eq_true rfl⟩ (Nat.le_of_ble_eq_true rfl) rfl [1, 2, 3, 4, 5, 6] rfl rfl dX10_frees_24 ?_
  intro _ _
  dsimp only [jpush]
  exact J.iret g hE u_11 (by rw [h_11.1 k (by omega)]) h_11 rfl ⟨Nat.le_of_ble_eq_true rfl, Nat.le_of_ble_eq_true rfl⟩ dX10_frees_27
set_option maxHeartbeats 4000000 in
set_option maxRecDepth 100000 in
theorem c_X10_frees_no (l : Launch) (γ : jγ) (ns tp rd gr rw tr oo pa iq sr sgn pp mu : Nat) (dsd : Int32) (mk ag cd pt od ex : Nat) (mf af : Nat → Nat) (w : Int32) (h24 : od ≤ 24) (hw : jhas w 13 = false ∨ ¬ (1 ≤ od ∧ od ≤ 12)) : jM (S := Unit) l γ yX10_frees cX10_frees 2 (some .int) ({ frames := 33, cells := 0, slots := 0, locals := 667 } : Room) [.ref ns, .int w] [(ns, .inr (10, [.ref tp, .ref rd, .ref gr, .ref rw, .ref tr, .ref oo, .ref pa, .ref iq, .ref sr, .ref sgn, .ref pp, .ref mu, .int dsd])), (gr, .inr (0, [.ref mk, .ref ag, .int (nI cd), .int (nI pt), .int (nI od), .int (nI ex)])), (mk, .inl (γ.2 1, 576, .inl (fun j => nI (mf j)))), (ag, .inl (γ.2 1, 24, .inl (fun j => nI (af j))))] (fun w0 => some (.int (-1))) (fun w0 => [(ns, .inr (10, [.ref tp, .ref rd, .ref gr, .ref rw, .ref tr, .ref oo, .ref pa, .ref iq, .ref sr, .ref sgn, .ref pp, .ref mu, .int dsd])), (gr, .inr (0, [.ref mk, .ref ag, .int (nI cd), .int (nI pt), .int (nI od), .int (nI ex)])), (mk, .inl (γ.2 1, 576, .inl (fun j => nI (mf j)))), (ag, .inl (γ.2 1, 24, .inl (fun j => nI (af j))))]) (fun w0 => True) := by
  refine jM.of [some (.ref ns), some (.int w)] rfl (Nat.le_of_ble_eq_true rfl) (by decide) ?_
  intro x g hE hin
  refine J.iload_n g dX10_frees_0 rfl rfl ?_
  refine J.if_lt g dX10_frees_1 (tgt := 17) (by decide) (fun c_1 => ?_) (fun c_1 => ?_)
  · refine J.iconst (v := -1) g dX10_frees_17 (by decide) ?_
    exact J.iret g hE () rfl trivial rfl ⟨Nat.le_of_ble_eq_true rfl, Nat.le_of_ble_eq_true rfl⟩ dX10_frees_18
  · refine J.iload_n g dX10_frees_4 rfl rfl ?_
    refine J.bipush (v := nI 12) g dX10_frees_5 (by decide +kernel) ?_
    refine J.icmp_gt g dX10_frees_7 (tgt := 17) (by decide) (fun c_7 => ?_) (fun c_7 => ?_)
    · refine J.iconst (v := -1) g dX10_frees_17 (by decide) ?_
      exact J.iret g hE () rfl trivial rfl ⟨Nat.le_of_ble_eq_true rfl, Nat.le_of_ble_eq_true rfl⟩ dX10_frees_18
    · refine J.aload_n g dX10_frees_10 rfl rfl ?_
      refine J.callV0 g (c_X10_studyMultisets_no l γ _ _ _ _ _ _ _ _ _ _ _ _ _ _ _ _ _ _ _ _ _ _ h24 (hw.elim (fun h => by rw [jhas_le (by omega) c_1 c_7] at h; cases h) id)) jy_X10_studyMultisets lm_X10_247 (q0 := 0) rfl jX10.1 ⟨⟨Nat.le_of_ble_eq_true rfl, Nat.le_of_ble_eq_true rfl⟩, Nat.le_of_ble_eq_true rfl, Nat.le_of_ble_eq_true rfl⟩ (Nat.le_of_ble_eq_true rfl) rfl [0, 1, 2, 3] rfl rfl dX10_frees_11 ?_
      intro _ _
      dsimp only [jpush]
      refine J.if_neB g dX10_frees_14 (tgt := 19) (by decide) (fun c_14 => absurd c_14 (by simp at c_14)) (fun c_14 => ?_)
      refine J.iconst (v := -1) g dX10_frees_17 (by decide) ?_
      exact J.iret g hE () rfl trivial rfl ⟨Nat.le_of_ble_eq_true rfl, Nat.le_of_ble_eq_true rfl⟩ dX10_frees_18
set_option maxHeartbeats 4000000 in
set_option maxRecDepth 100000 in
theorem c_X10_longest_yes (l : Launch) (γ : jγ) (ns tp rd gr rw tr oo pa iq sr sgn pp mu : Nat) (dsd : Int32) (mk ag cd pt od ex : Nat) (mf af : Nat → Nat) (ct gw ge fw fe sg gl fl : Nat) (C gf ff : Nat → Nat) (hG : gIs cd pt od ex mf af) (ho : 1 ≤ od ∧ od ≤ 12) (hsg : sg < 2 ^ 15) (hV : sg ≠ 0 → mPV sg C fl ff) : jM (S := (Nat → Nat) × (Nat × (Nat → Nat)) × (Nat × (Nat → Nat))) l γ yX10_longest cX10_longest 1 (some .int) ({ frames := 33, cells := 0, slots := 0, locals := 667 } : Room) [.ref ns] [(ns, .inr (10, [.ref tp, .ref rd, .ref gr, .ref rw, .ref tr, .ref oo, .ref pa, .ref iq, .ref sr, .ref sgn, .ref pp, .ref mu, .int dsd])), (mu, .inr (2, [.ref ct, .ref gw, .ref fw, .int (nI sg)])), (ct, .inl (γ.2 0, 13, .inl (fun j => nI (C j)))), (gw, .inr (6, [.ref ge, .int (nI gl)])), (ge, .inl (γ.2 0, 12, .inl (fun j => nI (gf j)))), (fw, .inr (6, [.ref fe, .int (nI fl)])), (fe, .inl (γ.2 0, 12, .inl (fun j => nI (ff j)))), (gr, .inr (0, [.ref mk, .ref ag, .int (nI cd), .int (nI pt), .int (nI od), .int (nI ex)])), (mk, .inl (γ.2 1, 576, .inl (fun j => nI (mf j)))), (ag, .inl (γ.2 1, 24, .inl (fun j => nI (af j))))] (fun u => some (.int (nI ((mT cd).2.length)))) (fun u => [(ns, .inr (10, [.ref tp, .ref rd, .ref gr, .ref rw, .ref tr, .ref oo, .ref pa, .ref iq, .ref sr, .ref sgn, .ref pp, .ref mu, .int dsd])), (mu, .inr (2, [.ref ct, .ref gw, .ref fw, .int (nI cd)])), (ct, .inl (γ.2 0, 13, .inl (fun j => nI (u.1 j)))), (gw, .inr (6, [.ref ge, .int (nI u.2.1.1)])), (ge, .inl (γ.2 0, 12, .inl (fun j => nI (u.2.1.2 j)))), (fw, .inr (6, [.ref fe, .int (nI u.2.2.1)])), (fe, .inl (γ.2 0, 12, .inl (fun j => nI (u.2.2.2 j)))), (gr, .inr (0, [.ref mk, .ref ag, .int (nI cd), .int (nI pt), .int (nI od), .int (nI ex)])), (mk, .inl (γ.2 1, 576, .inl (fun j => nI (mf j)))), (ag, .inl (γ.2 1, 24, .inl (fun j => nI (af j))))]) (fun u => mPV cd u.1 u.2.2.1 u.2.2.2) := by
  refine jM.of [some (.ref ns)] rfl (Nat.le_of_ble_eq_true rfl) (by decide) ?_
  intro x g hE hin
  refine J.aload_n g dX10_longest_0 rfl rfl ?_
  refine J.callV g (c_X10_studyMultisets_yes l γ _ _ _ _ _ _ _ _ _ _ _ _ _ _ _ _ _ _ _ _ _ _ _ _ _ _ _ _ _ _ _ _ _ hG ho hsg hV) jy_X10_studyMultisets lm_X10_247 (q0 := 0) rfl jX10.1 ⟨⟨Nat.le_of_ble_eq_true rfl, Nat.le_of_ble_eq_true rfl⟩, Nat.le_of_ble_eq_true rfl, Nat.le_of_ble_eq_true rfl⟩ (Nat.le_of_ble_eq_true rfl) rfl [0, 1, 2, 3, 4, 5, 6, 7, 8, 9] rfl (fun _ => rfl) rfl dX10_longest_1 ?_
  intro u_1 h_1
  dsimp only [jput, List.set_cons_zero, List.set_cons_succ, Option.toList, List.append, List.cons_append, List.nil_append, List.append_nil]
  refine J.if_eqB g dX10_longest_4 (tgt := 20) (by decide) (fun c_4 => absurd c_4 (by simp at c_4)) (fun c_4 => ?_)
  refine J.aload_n g dX10_longest_7 rfl rfl ?_
  refine J.get g jX10 11 (by decide) lf_X10_81 0 rfl rfl dX10_longest_8 ?_
  refine J.callV0 g (c_X2_firstLongest l γ _ _ _ _ _ ) jy_X2_firstLongest lm_X10_253 (q0 := 1) rfl jX2.1 ⟨⟨Nat.le_of_ble_eq_true rfl, Nat.le_of_ble_eq_true rfl⟩, Nat.le_of_ble_eq_true rfl, Nat.le_of_ble_eq_true rfl⟩ (Nat.le_of_ble_eq_true rfl) rfl [1] rfl rfl dX10_longest_11 ?_
  intro _ _
  dsimp only [jpush]
  refine J.callV0 g (c_X6_length l γ _ _ _ _ ) jy_X6_length lm_X10_144 (q0 := 5) rfl jX6.1 ⟨⟨Nat.le_of_ble_eq_true rfl, Nat.le_of_ble_eq_true rfl⟩, Nat.le_of_ble_eq_true rfl, Nat.le_of_ble_eq_true rfl⟩ (Nat.le_of_ble_eq_true rfl) rfl [5, 6] rfl rfl dX10_longest_14 ?_
  intro _ _
  dsimp only [jpush]
  refine J.goto g dX10_longest_17 (tgt := 21) (by decide) ?_
  exact J.iret g hE u_1 (by rw [h_1.2.1]) h_1 rfl ⟨Nat.le_of_ble_eq_true rfl, Nat.le_of_ble_eq_true rfl⟩ dX10_longest_21
set_option maxHeartbeats 4000000 in
set_option maxRecDepth 100000 in
theorem c_X10_longest_no (l : Launch) (γ : jγ) (ns tp rd gr rw tr oo pa iq sr sgn pp mu : Nat) (dsd : Int32) (mk ag cd pt od ex : Nat) (mf af : Nat → Nat) (h24 : od ≤ 24) (ho : ¬ (1 ≤ od ∧ od ≤ 12)) : jM (S := Unit) l γ yX10_longest cX10_longest 1 (some .int) ({ frames := 33, cells := 0, slots := 0, locals := 667 } : Room) [.ref ns] [(ns, .inr (10, [.ref tp, .ref rd, .ref gr, .ref rw, .ref tr, .ref oo, .ref pa, .ref iq, .ref sr, .ref sgn, .ref pp, .ref mu, .int dsd])), (gr, .inr (0, [.ref mk, .ref ag, .int (nI cd), .int (nI pt), .int (nI od), .int (nI ex)])), (mk, .inl (γ.2 1, 576, .inl (fun j => nI (mf j)))), (ag, .inl (γ.2 1, 24, .inl (fun j => nI (af j))))] (fun w0 => some (.int (-1))) (fun w0 => [(ns, .inr (10, [.ref tp, .ref rd, .ref gr, .ref rw, .ref tr, .ref oo, .ref pa, .ref iq, .ref sr, .ref sgn, .ref pp, .ref mu, .int dsd])), (gr, .inr (0, [.ref mk, .ref ag, .int (nI cd), .int (nI pt), .int (nI od), .int (nI ex)])), (mk, .inl (γ.2 1, 576, .inl (fun j => nI (mf j)))), (ag, .inl (γ.2 1, 24, .inl (fun j => nI (af j))))]) (fun w0 => True) := by
  refine jM.of [some (.ref ns)] rfl (Nat.le_of_ble_eq_true rfl) (by decide) ?_
  intro x g hE hin
  refine J.aload_n g dX10_longest_0 rfl rfl ?_
  refine J.callV0 g (c_X10_studyMultisets_no l γ _ _ _ _ _ _ _ _ _ _ _ _ _ _ _ _ _ _ _ _ _ _ h24 ho) jy_X10_studyMultisets lm_X10_247 (q0 := 0) rfl jX10.1 ⟨⟨Nat.le_of_ble_eq_true rfl, Nat.le_of_ble_eq_true rfl⟩, Nat.le_of_ble_eq_true rfl, Nat.le_of_ble_eq_true rfl⟩ (Nat.le_of_ble_eq_true rfl) rfl [0, 1, 2, 3] rfl rfl dX10_longest_1 ?_
  intro _ _
  dsimp only [jpush]
  refine J.if_eqB g dX10_longest_4 (tgt := 20) (by decide) (fun c_4 => ?_) (fun c_4 => absurd c_4 (by simp at c_4))
  refine J.iconst (v := -1) g dX10_longest_20 (by decide) ?_
  exact J.iret g hE () rfl trivial rfl ⟨Nat.le_of_ble_eq_true rfl, Nat.le_of_ble_eq_true rfl⟩ dX10_longest_21
set_option maxHeartbeats 4000000 in
set_option maxRecDepth 100000 in
theorem c_X10_longestAt_yes (l : Launch) (γ : jγ) (ns tp rd gr rw tr oo pa iq sr sgn pp mu : Nat) (dsd : Int32) (mk ag cd pt od ex : Nat) (mf af : Nat → Nat) (ct gw ge fw fe sg gl fl : Nat) (C gf ff : Nat → Nat) (w : Int32) (hG : gIs cd pt od ex mf af) (ho : 1 ≤ od ∧ od ≤ 12) (hsg : sg < 2 ^ 15) (hV : sg ≠ 0 → mPV sg C fl ff) : jM (S := (Nat → Nat) × (Nat × (Nat → Nat)) × (Nat × (Nat → Nat))) l γ yX10_longestAt cX10_longestAt 2 (some .int) ({ frames := 33, cells := 0, slots := 0, locals := 667 } : Room) [.ref ns, .int w] [(ns, .inr (10, [.ref tp, .ref rd, .ref gr, .ref rw, .ref tr, .ref oo, .ref pa, .ref iq, .ref sr, .ref sgn, .ref pp, .ref mu, .int dsd])), (mu, .inr (2, [.ref ct, .ref gw, .ref fw, .int (nI sg)])), (ct, .inl (γ.2 0, 13, .inl (fun j => nI (C j)))), (gw, .inr (6, [.ref ge, .int (nI gl)])), (ge, .inl (γ.2 0, 12, .inl (fun j => nI (gf j)))), (fw, .inr (6, [.ref fe, .int (nI fl)])), (fe, .inl (γ.2 0, 12, .inl (fun j => nI (ff j)))), (gr, .inr (0, [.ref mk, .ref ag, .int (nI cd), .int (nI pt), .int (nI od), .int (nI ex)])), (mk, .inl (γ.2 1, 576, .inl (fun j => nI (mf j)))), (ag, .inl (γ.2 1, 24, .inl (fun j => nI (af j))))] (fun u => some (.int (jat (fun k => (mT cd).2.getD k 0) (mT cd).2.length w))) (fun u => [(ns, .inr (10, [.ref tp, .ref rd, .ref gr, .ref rw, .ref tr, .ref oo, .ref pa, .ref iq, .ref sr, .ref sgn, .ref pp, .ref mu, .int dsd])), (mu, .inr (2, [.ref ct, .ref gw, .ref fw, .int (nI cd)])), (ct, .inl (γ.2 0, 13, .inl (fun j => nI (u.1 j)))), (gw, .inr (6, [.ref ge, .int (nI u.2.1.1)])), (ge, .inl (γ.2 0, 12, .inl (fun j => nI (u.2.1.2 j)))), (fw, .inr (6, [.ref fe, .int (nI u.2.2.1)])), (fe, .inl (γ.2 0, 12, .inl (fun j => nI (u.2.2.2 j)))), (gr, .inr (0, [.ref mk, .ref ag, .int (nI cd), .int (nI pt), .int (nI od), .int (nI ex)])), (mk, .inl (γ.2 1, 576, .inl (fun j => nI (mf j)))), (ag, .inl (γ.2 1, 24, .inl (fun j => nI (af j))))]) (fun u => mPV cd u.1 u.2.2.1 u.2.2.2) := by
  refine jM.of [some (.ref ns), some (.int w)] rfl (Nat.le_of_ble_eq_true rfl) (by decide) ?_
  intro x g hE hin
  refine J.aload_n g dX10_longestAt_0 rfl rfl ?_
  refine J.callV g (c_X10_studyMultisets_yes l γ _ _ _ _ _ _ _ _ _ _ _ _ _ _ _ _ _ _ _ _ _ _ _ _ _ _ _ _ _ _ _ _ _ hG ho hsg hV) jy_X10_studyMultisets lm_X10_247 (q0 := 0) rfl jX10.1 ⟨⟨Nat.le_of_ble_eq_true rfl, Nat.le_of_ble_eq_true rfl⟩, Nat.le_of_ble_eq_true rfl, Nat.le_of_ble_eq_true rfl⟩ (Nat.le_of_ble_eq_true rfl) rfl [0, 1, 2, 3, 4, 5, 6, 7, 8, 9] rfl (fun _ => rfl) rfl dX10_longestAt_1 ?_
  intro u_1 h_1
  dsimp only [jput, List.set_cons_zero, List.set_cons_succ, Option.toList, List.append, List.cons_append, List.nil_append, List.append_nil]
  refine J.if_eqB g dX10_longestAt_4 (tgt := 21) (by decide) (fun c_4 => absurd c_4 (by simp at c_4)) (fun c_4 => ?_)
  refine J.aload_n g dX10_longestAt_7 rfl rfl ?_
  refine J.get g jX10 11 (by decide) lf_X10_81 0 rfl rfl dX10_longestAt_8 ?_
  refine J.callV0 g (c_X2_firstLongest l γ _ _ _ _ _ ) jy_X2_firstLongest lm_X10_253 (q0 := 1) rfl jX2.1 ⟨⟨Nat.le_of_ble_eq_true rfl, Nat.le_of_ble_eq_true rfl⟩, Nat.le_of_ble_eq_true rfl, Nat.le_of_ble_eq_true rfl⟩ (Nat.le_of_ble_eq_true rfl) rfl [1] rfl rfl dX10_longestAt_11 ?_
  intro _ _
  dsimp only [jpush]
  refine J.iload_n g dX10_longestAt_14 rfl rfl ?_
  refine J.callV0 g (c_X6_elementAt l γ _ _ _ _ _ h_1.2.2.2) jy_X6_elementAt lm_X10_153 (q0 := 5) rfl jX6.1 ⟨⟨Nat.le_of_ble_eq_true rfl, Nat.le_of_ble_eq_true rfl⟩, Nat.le_of_ble_eq_true rfl, Nat.le_of_ble_eq_true rfl⟩ (Nat.le_of_ble_eq_true rfl) rfl [5, 6] rfl rfl dX10_longestAt_15 ?_
  intro _ _
  dsimp only [jpush]
  refine J.goto g dX10_longestAt_18 (tgt := 22) (by decide) ?_
  exact J.iret g hE u_1 (by rw [jat_congr (f := u_1.2.2.2) (f2 := fun k => (mT cd).2.getD k 0) (fun k hk => h_1.2.2.1 k (by rw [← h_1.2.1]; exact hk)), h_1.2.1]) h_1 rfl ⟨Nat.le_of_ble_eq_true rfl, Nat.le_of_ble_eq_true rfl⟩ dX10_longestAt_22
set_option maxHeartbeats 4000000 in
set_option maxRecDepth 100000 in
theorem c_X10_longestAt_no (l : Launch) (γ : jγ) (ns tp rd gr rw tr oo pa iq sr sgn pp mu : Nat) (dsd : Int32) (mk ag cd pt od ex : Nat) (mf af : Nat → Nat) (w : Int32) (h24 : od ≤ 24) (ho : ¬ (1 ≤ od ∧ od ≤ 12)) : jM (S := Unit) l γ yX10_longestAt cX10_longestAt 2 (some .int) ({ frames := 33, cells := 0, slots := 0, locals := 667 } : Room) [.ref ns, .int w] [(ns, .inr (10, [.ref tp, .ref rd, .ref gr, .ref rw, .ref tr, .ref oo, .ref pa, .ref iq, .ref sr, .ref sgn, .ref pp, .ref mu, .int dsd])), (gr, .inr (0, [.ref mk, .ref ag, .int (nI cd), .int (nI pt), .int (nI od), .int (nI ex)])), (mk, .inl (γ.2 1, 576, .inl (fun j => nI (mf j)))), (ag, .inl (γ.2 1, 24, .inl (fun j => nI (af j))))] (fun w0 => some (.int (-1))) (fun w0 => [(ns, .inr (10, [.ref tp, .ref rd, .ref gr, .ref rw, .ref tr, .ref oo, .ref pa, .ref iq, .ref sr, .ref sgn, .ref pp, .ref mu, .int dsd])), (gr, .inr (0, [.ref mk, .ref ag, .int (nI cd), .int (nI pt), .int (nI od), .int (nI ex)])), (mk, .inl (γ.2 1, 576, .inl (fun j => nI (mf j)))), (ag, .inl (γ.2 1, 24, .inl (fun j => nI (af j))))]) (fun w0 => True) := by
  refine jM.of [some (.ref ns), some (.int w)] rfl (Nat.le_of_ble_eq_true rfl) (by decide) ?_
  intro x g hE hin
  refine J.aload_n g dX10_longestAt_0 rfl rfl ?_
  refine J.callV0 g (c_X10_studyMultisets_no l γ _ _ _ _ _ _ _ _ _ _ _ _ _ _ _ _ _ _ _ _ _ _ h24 ho) jy_X10_studyMultisets lm_X10_247 (q0 := 0) rfl jX10.1 ⟨⟨Nat.le_of_ble_eq_true rfl, Nat.le_of_ble_eq_true rfl⟩, Nat.le_of_ble_eq_true rfl, Nat.le_of_ble_eq_true rfl⟩ (Nat.le_of_ble_eq_true rfl) rfl [0, 1, 2, 3] rfl rfl dX10_longestAt_1 ?_
  intro _ _
  dsimp only [jpush]
  refine J.if_eqB g dX10_longestAt_4 (tgt := 21) (by decide) (fun c_4 => ?_) (fun c_4 => absurd c_4 (by simp at c_4))
  refine J.iconst (v := -1) g dX10_longestAt_21 (by decide) ?_
  exact J.iret g hE () rfl trivial rfl ⟨Nat.le_of_ble_eq_true rfl, Nat.le_of_ble_eq_true rfl⟩ dX10_longestAt_22
set_option maxHeartbeats 4000000 in
set_option maxRecDepth 100000 in
theorem c_X10_imageAt_yes (l : Launch) (γ : jγ) (ns tp rd gr rw tr oo pa iq sr sgn pp mu : Nat) (dsd : Int32) (ia : Nat → Nat) (k : Nat) (hk : k < 2) : jM (S := Unit) l γ yX10_imageAt cX10_imageAt 2 (some (.object "NoughtSums$Image")) ({ frames := 0, cells := 0, slots := 0, locals := 0 } : Room) [.ref ns, .int (nI k)] [(ns, .inr (10, [.ref tp, .ref rd, .ref gr, .ref rw, .ref tr, .ref oo, .ref pa, .ref iq, .ref sr, .ref sgn, .ref pp, .ref mu, .int dsd])), (iq, .inl (γ.2 6, 2, .inr (.inr (.inr (.inr (fun i => some (ia i)))))))] (fun w0 => some (.ref (ia k))) (fun w0 => [(ns, .inr (10, [.ref tp, .ref rd, .ref gr, .ref rw, .ref tr, .ref oo, .ref pa, .ref iq, .ref sr, .ref sgn, .ref pp, .ref mu, .int dsd])), (iq, .inl (γ.2 6, 2, .inr (.inr (.inr (.inr (fun i => some (ia i)))))))]) (fun w0 => True) := by
  refine jM.of [some (.ref ns), some (.int (nI k))] rfl (Nat.le_of_ble_eq_true rfl) (by decide) ?_
  intro x g hE hin
  refine J.iload_n g dX10_imageAt_0 rfl rfl ?_
  refine J.if_ltN g dX10_imageAt_1 (tgt := 22) (by decide) (by omega) ?_
  refine J.iload_n g dX10_imageAt_4 rfl rfl ?_
  refine J.aload_n g dX10_imageAt_5 rfl rfl ?_
  refine J.get g jX10 7 (by decide) lf_X10_52 0 rfl rfl dX10_imageAt_6 ?_
  refine J.alen (v := nI 2) g 1 6 rfl rfl rfl dX10_imageAt_9 ?_
  refine J.icmp_geN g dX10_imageAt_10 (tgt := 22) (by decide) (by omega) (by omega) (fun c_10 => absurd c_10 (by omega)) (fun c_10 => ?_)
  refine J.aload_n g dX10_imageAt_13 rfl rfl ?_
  refine J.get g jX10 7 (by decide) lf_X10_52 0 rfl rfl dX10_imageAt_14 ?_
  refine J.iload_n g dX10_imageAt_17 rfl rfl ?_
  refine J.qaldK (r := (ia k)) g 1 6 rfl rfl rfl (by omega) (by decide) rfl dX10_imageAt_18 ?_
  refine J.goto g dX10_imageAt_19 (tgt := 23) (by decide) ?_
  exact J.aret (Or.inr ⟨_, rfl⟩) g hE () rfl trivial rfl ⟨Nat.le_of_ble_eq_true rfl, Nat.le_of_ble_eq_true rfl⟩ dX10_imageAt_23
set_option maxHeartbeats 4000000 in
set_option maxRecDepth 100000 in
theorem c_X10_imageAt_no (l : Launch) (γ : jγ) (ns tp rd gr rw tr oo pa iq sr sgn pp mu : Nat) (dsd : Int32) (ia : Nat → Nat) (w : Int32) (hw : jhas w 2 = false) : jM (S := Unit) l γ yX10_imageAt cX10_imageAt 2 (some (.object "NoughtSums$Image")) ({ frames := 0, cells := 0, slots := 0, locals := 0 } : Room) [.ref ns, .int w] [(ns, .inr (10, [.ref tp, .ref rd, .ref gr, .ref rw, .ref tr, .ref oo, .ref pa, .ref iq, .ref sr, .ref sgn, .ref pp, .ref mu, .int dsd])), (iq, .inl (γ.2 6, 2, .inr (.inr (.inr (.inr (fun i => some (ia i)))))))] (fun w0 => some (.null)) (fun w0 => [(ns, .inr (10, [.ref tp, .ref rd, .ref gr, .ref rw, .ref tr, .ref oo, .ref pa, .ref iq, .ref sr, .ref sgn, .ref pp, .ref mu, .int dsd])), (iq, .inl (γ.2 6, 2, .inr (.inr (.inr (.inr (fun i => some (ia i)))))))]) (fun w0 => True) := by
  refine jM.of [some (.ref ns), some (.int w)] rfl (Nat.le_of_ble_eq_true rfl) (by decide) ?_
  intro x g hE hin
  refine J.iload_n g dX10_imageAt_0 rfl rfl ?_
  refine J.if_lt g dX10_imageAt_1 (tgt := 22) (by decide) (fun c_1 => ?_) (fun c_1 => ?_)
  · refine J.null g dX10_imageAt_22 ?_
    exact J.aret (Or.inl rfl) g hE () rfl trivial rfl ⟨Nat.le_of_ble_eq_true rfl, Nat.le_of_ble_eq_true rfl⟩ dX10_imageAt_23
  · refine J.iload_n g dX10_imageAt_4 rfl rfl ?_
    refine J.aload_n g dX10_imageAt_5 rfl rfl ?_
    refine J.get g jX10 7 (by decide) lf_X10_52 0 rfl rfl dX10_imageAt_6 ?_
    refine J.alen (v := nI 2) g 1 6 rfl rfl rfl dX10_imageAt_9 ?_
    refine J.icmp_ge g dX10_imageAt_10 (tgt := 22) (by decide) (fun c_10 => ?_) (fun c_10 => absurd c_10 (fun z => by rw [jhas_lt2 (by omega) c_1 (Int32.not_le.mp z)] at hw; cases hw))
    refine J.null g dX10_imageAt_22 ?_
    exact J.aret (Or.inl rfl) g hE () rfl trivial rfl ⟨Nat.le_of_ble_eq_true rfl, Nat.le_of_ble_eq_true rfl⟩ dX10_imageAt_23
set_option maxHeartbeats 4000000 in
set_option maxRecDepth 100000 in
theorem c_X10_image_yes (l : Launch) (γ : jγ) (ns tp rd gr rw tr oo pa iq sr sgn pp mu : Nat) (dsd : Int32) (rwe n : Nat) (f : Nat → Nat) (mk ag cd pt od ex : Nat) (mf af : Nat → Nat) (ia ir ie ic il : Nat → Nat) (ik : Nat → Bool) (iff : Nat → Nat → Nat) (k : Nat) (hn : n ≤ 12) (hk : k < 2) : jM (S := Nat → Nat) l γ yX10_image cX10_image 3 (some .boolean) ({ frames := 2, cells := 0, slots := 0, locals := 44 } : Room) [.ref ns, .int (nI k)] [(ns, .inr (10, [.ref tp, .ref rd, .ref gr, .ref rw, .ref tr, .ref oo, .ref pa, .ref iq, .ref sr, .ref sgn, .ref pp, .ref mu, .int dsd])), (rw, .inr (6, [.ref rwe, .int (nI n)])), (rwe, .inl (γ.2 0, 12, .inl (fun j => nI (f j)))), (gr, .inr (0, [.ref mk, .ref ag, .int (nI cd), .int (nI pt), .int (nI od), .int (nI ex)])), (mk, .inl (γ.2 1, 576, .inl (fun j => nI (mf j)))), (ag, .inl (γ.2 1, 24, .inl (fun j => nI (af j)))), (iq, .inl (γ.2 6, 2, .inr (.inr (.inr (.inr (fun i => some (ia i))))))), ((ia 0), .inr (1, [.ref (ir 0), .int (nI (ic 0)), .int (jB (ik 0))])), ((ir 0), .inr (6, [.ref (ie 0), .int (nI (il 0))])), ((ie 0), .inl (γ.2 0, 12, .inl (fun j => nI ((iff 0) j)))), ((ia 1), .inr (1, [.ref (ir 1), .int (nI (ic 1)), .int (jB (ik 1))])), ((ir 1), .inr (6, [.ref (ie 1), .int (nI (il 1))])), ((ie 1), .inl (γ.2 0, 12, .inl (fun j => nI ((iff 1) j))))] (fun u => some (.int (jB true))) (fun u => [(ns, .inr (10, [.ref tp, .ref rd, .ref gr, .ref rw, .ref tr, .ref oo, .ref pa, .ref iq, .ref sr, .ref sgn, .ref pp, .ref mu, .int dsd])), (rw, .inr (6, [.ref rwe, .int (nI n)])), (rwe, .inl (γ.2 0, 12, .inl (fun j => nI (f j)))), (gr, .inr (0, [.ref mk, .ref ag, .int (nI cd), .int (nI pt), .int (nI od), .int (nI ex)])), (mk, .inl (γ.2 1, 576, .inl (fun j => nI (mf j)))), (ag, .inl (γ.2 1, 24, .inl (fun j => nI (af j)))), (iq, .inl (γ.2 6, 2, .inr (.inr (.inr (.inr (fun i => some (ia i))))))), ((ia 0), .inr (1, [.ref (ir 0), .int (nI ((va_up ic k cd) 0)), .int (jB ((va_up ik k true) 0))])), ((ir 0), .inr (6, [.ref (ie 0), .int (nI ((va_up il k n) 0))])), ((ie 0), .inl (γ.2 0, 12, .inl (fun j => nI (((va_up iff k u) 0) j)))), ((ia 1), .inr (1, [.ref (ir 1), .int (nI ((va_up ic k cd) 1)), .int (jB ((va_up ik k true) 1))])), ((ir 1), .inr (6, [.ref (ie 1), .int (nI ((va_up il k n) 1))])), ((ie 1), .inl (γ.2 0, 12, .inl (fun j => nI (((va_up iff k u) 1) j))))]) (fun u => ∀ j, j < n → u j = f j) := by
  refine jM.of [some (.ref ns), some (.int (nI k)), none] rfl (Nat.le_of_ble_eq_true rfl) (by decide) ?_
  intro x g hE hin
  rcases (show k = 0 ∨ k = 1 by omega) with rfl | rfl
  · refine J.aload_n g dX10_image_0 rfl rfl ?_
    refine J.iload_n g dX10_image_1 rfl rfl ?_
    refine J.callV0 g (c_X10_imageAt_yes l γ _ _ _ _ _ _ _ _ _ _ _ _ _ _ _ _ (by decide)) jy_X10_imageAt lm_X10_277 (q0 := 0) rfl jX10.1 ⟨⟨Nat.le_of_ble_eq_true rfl, Nat.le_of_ble_eq_true rfl⟩, Nat.le_of_ble_eq_true rfl, Nat.le_of_ble_eq_true rfl⟩ (Nat.le_of_ble_eq_true rfl) rfl [0, 6] rfl rfl dX10_image_2 ?_
    intro _ _
    dsimp only [jpush]
    refine J.astore_n g dX10_image_5 rfl rfl rfl ?_
    try dsimp only [List.set_cons_zero, List.set_cons_succ]
    refine J.aload_n g dX10_image_6 rfl rfl ?_
    refine J.ifnonnull g dX10_image_7 (tgt := 12) (by decide) ?_
    refine J.aload_n g dX10_image_12 rfl rfl ?_
    refine J.aload_n g dX10_image_13 rfl rfl ?_
    refine J.get g jX10 2 (by decide) lf_X10_26 0 rfl rfl dX10_image_14 ?_
    refine J.aload_n g dX10_image_17 rfl rfl ?_
    refine J.get g jX10 3 (by decide) lf_X10_33 0 rfl rfl dX10_image_18 ?_
    refine J.callV g (c_X1_keep l γ _ _ _ _ _ _ _ _ _ _ _ _ _ _ _ _ _ _ _ _ hn) jy_X1_keep lm_X10_281 (q0 := 7) rfl jX1.1 ⟨⟨Nat.le_of_ble_eq_true rfl, Nat.le_of_ble_eq_true rfl⟩, Nat.le_of_ble_eq_true rfl, Nat.le_of_ble_eq_true rfl⟩ (Nat.le_of_ble_eq_true rfl) rfl [7, 8, 9, 3, 4, 5, 1, 2] rfl (fun _ => rfl) rfl dX10_image_21 ?_
    intro u_21 h_21
    dsimp only [jput, List.set_cons_zero, List.set_cons_succ, Option.toList, List.append, List.cons_append, List.nil_append, List.append_nil]
    refine J.iconstN g 1 dX10_image_24 ?_
    exact J.zret (by first | rfl | exact j_nz _) g hE u_21 (jB_t (by rfl)) h_21 rfl ⟨Nat.le_of_ble_eq_true rfl, Nat.le_of_ble_eq_true rfl⟩ dX10_image_25
  · refine J.aload_n g dX10_image_0 rfl rfl ?_
    refine J.iload_n g dX10_image_1 rfl rfl ?_
    refine J.callV0 g (c_X10_imageAt_yes l γ _ _ _ _ _ _ _ _ _ _ _ _ _ _ _ _ (by decide)) jy_X10_imageAt lm_X10_277 (q0 := 0) rfl jX10.1 ⟨⟨Nat.le_of_ble_eq_true rfl, Nat.le_of_ble_eq_true rfl⟩, Nat.le_of_ble_eq_true rfl, Nat.le_of_ble_eq_true rfl⟩ (Nat.le_of_ble_eq_true rfl) rfl [0, 6] rfl rfl dX10_image_2 ?_
    intro _ _
    dsimp only [jpush]
    refine J.astore_n g dX10_image_5 rfl rfl rfl ?_
    try dsimp only [List.set_cons_zero, List.set_cons_succ]
    refine J.aload_n g dX10_image_6 rfl rfl ?_
    refine J.ifnonnull g dX10_image_7 (tgt := 12) (by decide) ?_
    refine J.aload_n g dX10_image_12 rfl rfl ?_
    refine J.aload_n g dX10_image_13 rfl rfl ?_
    refine J.get g jX10 2 (by decide) lf_X10_26 0 rfl rfl dX10_image_14 ?_
    refine J.aload_n g dX10_image_17 rfl rfl ?_
    refine J.get g jX10 3 (by decide) lf_X10_33 0 rfl rfl dX10_image_18 ?_
    refine J.callV g (c_X1_keep l γ _ _ _ _ _ _ _ _ _ _ _ _ _ _ _ _ _ _ _ _ hn) jy_X1_keep lm_X10_281 (q0 := 10) rfl jX1.1 ⟨⟨Nat.le_of_ble_eq_true rfl, Nat.le_of_ble_eq_true rfl⟩, Nat.le_of_ble_eq_true rfl, Nat.le_of_ble_eq_true rfl⟩ (Nat.le_of_ble_eq_true rfl) rfl [10, 11, 12, 3, 4, 5, 1, 2] rfl (fun _ => rfl) rfl dX10_image_21 ?_
    intro u_21 h_21
    dsimp only [jput, List.set_cons_zero, List.set_cons_succ, Option.toList, List.append, List.cons_append, List.nil_append, List.append_nil]
    refine J.iconstN g 1 dX10_image_24 ?_
    exact J.zret (by first | rfl | exact j_nz _) g hE u_21 (jB_t (by rfl)) h_21 rfl ⟨Nat.le_of_ble_eq_true rfl, Nat.le_of_ble_eq_true rfl⟩ dX10_image_25
set_option maxHeartbeats 4000000 in
set_option maxRecDepth 100000 in
theorem c_X10_image_no (l : Launch) (γ : jγ) (ns tp rd gr rw tr oo pa iq sr sgn pp mu : Nat) (dsd : Int32) (ia : Nat → Nat) (w : Int32) (hw : jhas w 2 = false) : jM (S := Unit) l γ yX10_image cX10_image 3 (some .boolean) ({ frames := 2, cells := 0, slots := 0, locals := 44 } : Room) [.ref ns, .int w] [(ns, .inr (10, [.ref tp, .ref rd, .ref gr, .ref rw, .ref tr, .ref oo, .ref pa, .ref iq, .ref sr, .ref sgn, .ref pp, .ref mu, .int dsd])), (iq, .inl (γ.2 6, 2, .inr (.inr (.inr (.inr (fun i => some (ia i)))))))] (fun w0 => some (.int (jB false))) (fun w0 => [(ns, .inr (10, [.ref tp, .ref rd, .ref gr, .ref rw, .ref tr, .ref oo, .ref pa, .ref iq, .ref sr, .ref sgn, .ref pp, .ref mu, .int dsd])), (iq, .inl (γ.2 6, 2, .inr (.inr (.inr (.inr (fun i => some (ia i)))))))]) (fun w0 => True) := by
  refine jM.of [some (.ref ns), some (.int w), none] rfl (Nat.le_of_ble_eq_true rfl) (by decide) ?_
  intro x g hE hin
  refine J.aload_n g dX10_image_0 rfl rfl ?_
  refine J.iload_n g dX10_image_1 rfl rfl ?_
  refine J.callV0 g (c_X10_imageAt_no l γ _ _ _ _ _ _ _ _ _ _ _ _ _ _ _ _ hw) jy_X10_imageAt lm_X10_277 (q0 := 0) rfl jX10.1 ⟨⟨Nat.le_of_ble_eq_true rfl, Nat.le_of_ble_eq_true rfl⟩, Nat.le_of_ble_eq_true rfl, Nat.le_of_ble_eq_true rfl⟩ (Nat.le_of_ble_eq_true rfl) rfl [0, 1] rfl rfl dX10_image_2 ?_
  intro _ _
  dsimp only [jpush]
  refine J.astore_nN g dX10_image_5 rfl rfl rfl ?_
  try dsimp only [List.set_cons_zero, List.set_cons_succ]
  refine J.aload_nN g dX10_image_6 rfl rfl ?_
  refine J.ifnonnullN g dX10_image_7 ?_
  refine J.iconstN g 0 dX10_image_10 ?_
  exact J.zret (by first | rfl | exact j_nz _) g hE () (jB_f (by rfl)) trivial rfl ⟨Nat.le_of_ble_eq_true rfl, Nat.le_of_ble_eq_true rfl⟩ dX10_image_11
set_option maxHeartbeats 4000000 in
set_option maxRecDepth 100000 in
theorem c_X10_restore_yes (l : Launch) (γ : jγ) (ns tp rd gr rw tr oo pa iq sr sgn pp mu : Nat) (dsd : Int32) (rwe n : Nat) (f : Nat → Nat) (mk ag cd pt od ex : Nat) (mf af : Nat → Nat) (ia ir ie ic il : Nat → Nat) (ik : Nat → Bool) (iff : Nat → Nat → Nat) (rq nx pl : Nat) (k : Nat) (hG : gIs cd pt od ex mf af) (hk : k < 2) (hkk : ik k = true) (hc : ic k ∈ jcodes) (hl : il k ≤ 12) : jM (S := ((Nat → Nat) × (Nat → Nat)) × (Nat → Nat)) l γ yX10_restore cX10_restore 3 (some .boolean) ({ frames := 6, cells := 0, slots := 0, locals := 135 } : Room) [.ref ns, .int (nI k)] [(ns, .inr (10, [.ref tp, .ref rd, .ref gr, .ref rw, .ref tr, .ref oo, .ref pa, .ref iq, .ref sr, .ref sgn, .ref pp, .ref mu, .int dsd])), (rw, .inr (6, [.ref rwe, .int (nI n)])), (rwe, .inl (γ.2 0, 12, .inl (fun j => nI (f j)))), (gr, .inr (0, [.ref mk, .ref ag, .int (nI cd), .int (nI pt), .int (nI od), .int (nI ex)])), (mk, .inl (γ.2 1, 576, .inl (fun j => nI (mf j)))), (ag, .inl (γ.2 1, 24, .inl (fun j => nI (af j)))), (iq, .inl (γ.2 6, 2, .inr (.inr (.inr (.inr (fun i => some (ia i))))))), ((ia 0), .inr (1, [.ref (ir 0), .int (nI (ic 0)), .int (jB (ik 0))])), ((ir 0), .inr (6, [.ref (ie 0), .int (nI (il 0))])), ((ie 0), .inl (γ.2 0, 12, .inl (fun j => nI ((iff 0) j)))), ((ia 1), .inr (1, [.ref (ir 1), .int (nI (ic 1)), .int (jB (ik 1))])), ((ir 1), .inr (6, [.ref (ie 1), .int (nI (il 1))])), ((ie 1), .inl (γ.2 0, 12, .inl (fun j => nI ((iff 1) j)))), (pa, .inr (4, [.ref rq, .int (nI nx), .int (nI pl)]))] (fun u => some (.int (jB true))) (fun u => [(ns, .inr (10, [.ref tp, .ref rd, .ref gr, .ref rw, .ref tr, .ref oo, .ref pa, .ref iq, .ref sr, .ref sgn, .ref pp, .ref mu, .int dsd])), (rw, .inr (6, [.ref rwe, .int (nI (il k))])), (rwe, .inl (γ.2 0, 12, .inl (fun j => nI (u.2 j)))), (gr, .inr (0, [.ref mk, .ref ag, .int (nI (ic k)), .int (nI (gpt (ic k))), .int (nI (god (ic k))), .int (nI (gex (ic k)))])), (mk, .inl (γ.2 1, 576, .inl (fun j => nI (u.1.1 j)))), (ag, .inl (γ.2 1, 24, .inl (fun j => nI (u.1.2 j)))), (iq, .inl (γ.2 6, 2, .inr (.inr (.inr (.inr (fun i => some (ia i))))))), ((ia 0), .inr (1, [.ref (ir 0), .int (nI (ic 0)), .int (jB (ik 0))])), ((ir 0), .inr (6, [.ref (ie 0), .int (nI (il 0))])), ((ie 0), .inl (γ.2 0, 12, .inl (fun j => nI ((iff 0) j)))), ((ia 1), .inr (1, [.ref (ir 1), .int (nI (ic 1)), .int (jB (ik 1))])), ((ir 1), .inr (6, [.ref (ie 1), .int (nI (il 1))])), ((ie 1), .inl (γ.2 0, 12, .inl (fun j => nI ((iff 1) j)))), (pa, .inr (4, [.ref rq, .int (nI nx), .int (nI 0)]))]) (fun u => gIs (ic k) (gpt (ic k)) (god (ic k)) (gex (ic k)) u.1.1 u.1.2 ∧ ∀ j, j < il k → u.2 j = iff k j) := by
  refine jM.of [some (.ref ns), some (.int (nI k)), none] rfl (Nat.le_of_ble_eq_true rfl) (by decide) ?_
  intro x g hE hin
  rcases (show k = 0 ∨ k = 1 by omega) with rfl | rfl
  · refine J.aload_n g dX10_restore_0 rfl rfl ?_
    refine J.iload_n g dX10_restore_1 rfl rfl ?_
    refine J.callV0 g (c_X10_imageAt_yes l γ _ _ _ _ _ _ _ _ _ _ _ _ _ _ _ _ (by decide)) jy_X10_imageAt lm_X10_277 (q0 := 0) rfl jX10.1 ⟨⟨Nat.le_of_ble_eq_true rfl, Nat.le_of_ble_eq_true rfl⟩, Nat.le_of_ble_eq_true rfl, Nat.le_of_ble_eq_true rfl⟩ (Nat.le_of_ble_eq_true rfl) rfl [0, 6] rfl rfl dX10_restore_2 ?_
    intro _ _
    dsimp only [jpush]
    refine J.astore_n g dX10_restore_5 rfl rfl rfl ?_
    try dsimp only [List.set_cons_zero, List.set_cons_succ]
    refine J.aload_n g dX10_restore_6 rfl rfl ?_
    refine J.ifnull g dX10_restore_7 ?_
    refine J.aload_n g dX10_restore_10 rfl rfl ?_
    refine J.callV0 g (c_X1_isKept l γ _ _ _ _ ) jy_X1_isKept lm_X10_283 (q0 := 7) rfl jX1.1 ⟨⟨Nat.le_of_ble_eq_true rfl, Nat.le_of_ble_eq_true rfl⟩, Nat.le_of_ble_eq_true rfl, Nat.le_of_ble_eq_true rfl⟩ (Nat.le_of_ble_eq_true rfl) rfl [7] rfl rfl dX10_restore_11 ?_
    intro _ _
    dsimp only [jpush]
    refine J.if_neB g dX10_restore_14 (tgt := 19) (by decide) (fun c_14 => ?_) (fun c_14 => absurd c_14 (by rw [hkk] at c_14; cases c_14))
    refine J.aload_n g dX10_restore_19 rfl rfl ?_
    refine J.aload_n g dX10_restore_20 rfl rfl ?_
    refine J.get g jX10 2 (by decide) lf_X10_26 0 rfl rfl dX10_restore_21 ?_
    refine J.aload_n g dX10_restore_24 rfl rfl ?_
    refine J.get g jX10 3 (by decide) lf_X10_33 0 rfl rfl dX10_restore_25 ?_
    refine J.callV g (c_X1_giveBack l γ _ _ _ _ _ _ _ _ _ _ _ _ _ _ _ _ _ _ _ _ hG hc hl) jy_X1_giveBack lm_X10_286 (q0 := 7) rfl jX1.1 ⟨⟨Nat.le_of_ble_eq_true rfl, Nat.le_of_ble_eq_true rfl⟩, Nat.le_of_ble_eq_true rfl, Nat.le_of_ble_eq_true rfl⟩ (Nat.le_of_ble_eq_true rfl) rfl [7, 8, 9, 3, 4, 5, 1, 2] rfl (fun _ => rfl) rfl dX10_restore_28 ?_
    intro u_28 h_28
    dsimp only [jput, List.set_cons_zero, List.set_cons_succ, Option.toList, List.append, List.cons_append, List.nil_append, List.append_nil]
    refine J.aload_n g dX10_restore_31 rfl rfl ?_
    refine J.get g jX10 6 (by decide) lf_X10_46 0 rfl rfl dX10_restore_32 ?_
    refine J.callV g (c_X4_forget l γ _ _ _ _ ) jy_X4_forget lm_X10_126 (q0 := 13) rfl jX4.1 ⟨⟨Nat.le_of_ble_eq_true rfl, Nat.le_of_ble_eq_true rfl⟩, Nat.le_of_ble_eq_true rfl, Nat.le_of_ble_eq_true rfl⟩ (Nat.le_of_ble_eq_true rfl) rfl [13] rfl (fun _ => rfl) rfl dX10_restore_35 ?_
    intro _ _
    dsimp only [jput, List.set_cons_zero, List.set_cons_succ, Option.toList, List.append, List.cons_append, List.nil_append, List.append_nil]
    refine J.iconstN g 1 dX10_restore_38 ?_
    exact J.zret (by first | rfl | exact j_nz _) g hE u_28 (jB_t (by rfl)) h_28 rfl ⟨Nat.le_of_ble_eq_true rfl, Nat.le_of_ble_eq_true rfl⟩ dX10_restore_39
  · refine J.aload_n g dX10_restore_0 rfl rfl ?_
    refine J.iload_n g dX10_restore_1 rfl rfl ?_
    refine J.callV0 g (c_X10_imageAt_yes l γ _ _ _ _ _ _ _ _ _ _ _ _ _ _ _ _ (by decide)) jy_X10_imageAt lm_X10_277 (q0 := 0) rfl jX10.1 ⟨⟨Nat.le_of_ble_eq_true rfl, Nat.le_of_ble_eq_true rfl⟩, Nat.le_of_ble_eq_true rfl, Nat.le_of_ble_eq_true rfl⟩ (Nat.le_of_ble_eq_true rfl) rfl [0, 6] rfl rfl dX10_restore_2 ?_
    intro _ _
    dsimp only [jpush]
    refine J.astore_n g dX10_restore_5 rfl rfl rfl ?_
    try dsimp only [List.set_cons_zero, List.set_cons_succ]
    refine J.aload_n g dX10_restore_6 rfl rfl ?_
    refine J.ifnull g dX10_restore_7 ?_
    refine J.aload_n g dX10_restore_10 rfl rfl ?_
    refine J.callV0 g (c_X1_isKept l γ _ _ _ _ ) jy_X1_isKept lm_X10_283 (q0 := 10) rfl jX1.1 ⟨⟨Nat.le_of_ble_eq_true rfl, Nat.le_of_ble_eq_true rfl⟩, Nat.le_of_ble_eq_true rfl, Nat.le_of_ble_eq_true rfl⟩ (Nat.le_of_ble_eq_true rfl) rfl [10] rfl rfl dX10_restore_11 ?_
    intro _ _
    dsimp only [jpush]
    refine J.if_neB g dX10_restore_14 (tgt := 19) (by decide) (fun c_14 => ?_) (fun c_14 => absurd c_14 (by rw [hkk] at c_14; cases c_14))
    refine J.aload_n g dX10_restore_19 rfl rfl ?_
    refine J.aload_n g dX10_restore_20 rfl rfl ?_
    refine J.get g jX10 2 (by decide) lf_X10_26 0 rfl rfl dX10_restore_21 ?_
    refine J.aload_n g dX10_restore_24 rfl rfl ?_
    refine J.get g jX10 3 (by decide) lf_X10_33 0 rfl rfl dX10_restore_25 ?_
    refine J.callV g (c_X1_giveBack l γ _ _ _ _ _ _ _ _ _ _ _ _ _ _ _ _ _ _ _ _ hG hc hl) jy_X1_giveBack lm_X10_286 (q0 := 10) rfl jX1.1 ⟨⟨Nat.le_of_ble_eq_true rfl, Nat.le_of_ble_eq_true rfl⟩, Nat.le_of_ble_eq_true rfl, Nat.le_of_ble_eq_true rfl⟩ (Nat.le_of_ble_eq_true rfl) rfl [10, 11, 12, 3, 4, 5, 1, 2] rfl (fun _ => rfl) rfl dX10_restore_28 ?_
    intro u_28 h_28
    dsimp only [jput, List.set_cons_zero, List.set_cons_succ, Option.toList, List.append, List.cons_append, List.nil_append, List.append_nil]
    refine J.aload_n g dX10_restore_31 rfl rfl ?_
    refine J.get g jX10 6 (by decide) lf_X10_46 0 rfl rfl dX10_restore_32 ?_
    refine J.callV g (c_X4_forget l γ _ _ _ _ ) jy_X4_forget lm_X10_126 (q0 := 13) rfl jX4.1 ⟨⟨Nat.le_of_ble_eq_true rfl, Nat.le_of_ble_eq_true rfl⟩, Nat.le_of_ble_eq_true rfl, Nat.le_of_ble_eq_true rfl⟩ (Nat.le_of_ble_eq_true rfl) rfl [13] rfl (fun _ => rfl) rfl dX10_restore_35 ?_
    intro _ _
    dsimp only [jput, List.set_cons_zero, List.set_cons_succ, Option.toList, List.append, List.cons_append, List.nil_append, List.append_nil]
    refine J.iconstN g 1 dX10_restore_38 ?_
    exact J.zret (by first | rfl | exact j_nz _) g hE u_28 (jB_t (by rfl)) h_28 rfl ⟨Nat.le_of_ble_eq_true rfl, Nat.le_of_ble_eq_true rfl⟩ dX10_restore_39
set_option maxHeartbeats 4000000 in
set_option maxRecDepth 100000 in
theorem c_X10_restore_no2 (l : Launch) (γ : jγ) (ns tp rd gr rw tr oo pa iq sr sgn pp mu : Nat) (dsd : Int32) (ia ir ie ic il : Nat → Nat) (ik : Nat → Bool) (iff : Nat → Nat → Nat) (k : Nat) (hk : k < 2) (hkk : ik k = false) : jM (S := Unit) l γ yX10_restore cX10_restore 3 (some .boolean) ({ frames := 6, cells := 0, slots := 0, locals := 135 } : Room) [.ref ns, .int (nI k)] [(ns, .inr (10, [.ref tp, .ref rd, .ref gr, .ref rw, .ref tr, .ref oo, .ref pa, .ref iq, .ref sr, .ref sgn, .ref pp, .ref mu, .int dsd])), (iq, .inl (γ.2 6, 2, .inr (.inr (.inr (.inr (fun i => some (ia i))))))), ((ia 0), .inr (1, [.ref (ir 0), .int (nI (ic 0)), .int (jB (ik 0))])), ((ir 0), .inr (6, [.ref (ie 0), .int (nI (il 0))])), ((ie 0), .inl (γ.2 0, 12, .inl (fun j => nI ((iff 0) j)))), ((ia 1), .inr (1, [.ref (ir 1), .int (nI (ic 1)), .int (jB (ik 1))])), ((ir 1), .inr (6, [.ref (ie 1), .int (nI (il 1))])), ((ie 1), .inl (γ.2 0, 12, .inl (fun j => nI ((iff 1) j))))] (fun w0 => some (.int (jB false))) (fun w0 => [(ns, .inr (10, [.ref tp, .ref rd, .ref gr, .ref rw, .ref tr, .ref oo, .ref pa, .ref iq, .ref sr, .ref sgn, .ref pp, .ref mu, .int dsd])), (iq, .inl (γ.2 6, 2, .inr (.inr (.inr (.inr (fun i => some (ia i))))))), ((ia 0), .inr (1, [.ref (ir 0), .int (nI (ic 0)), .int (jB (ik 0))])), ((ir 0), .inr (6, [.ref (ie 0), .int (nI (il 0))])), ((ie 0), .inl (γ.2 0, 12, .inl (fun j => nI ((iff 0) j)))), ((ia 1), .inr (1, [.ref (ir 1), .int (nI (ic 1)), .int (jB (ik 1))])), ((ir 1), .inr (6, [.ref (ie 1), .int (nI (il 1))])), ((ie 1), .inl (γ.2 0, 12, .inl (fun j => nI ((iff 1) j))))]) (fun w0 => True) := by
  refine jM.of [some (.ref ns), some (.int (nI k)), none] rfl (Nat.le_of_ble_eq_true rfl) (by decide) ?_
  intro x g hE hin
  rcases (show k = 0 ∨ k = 1 by omega) with rfl | rfl
  · refine J.aload_n g dX10_restore_0 rfl rfl ?_
    refine J.iload_n g dX10_restore_1 rfl rfl ?_
    refine J.callV0 g (c_X10_imageAt_yes l γ _ _ _ _ _ _ _ _ _ _ _ _ _ _ _ _ (by decide)) jy_X10_imageAt lm_X10_277 (q0 := 0) rfl jX10.1 ⟨⟨Nat.le_of_ble_eq_true rfl, Nat.le_of_ble_eq_true rfl⟩, Nat.le_of_ble_eq_true rfl, Nat.le_of_ble_eq_true rfl⟩ (Nat.le_of_ble_eq_true rfl) rfl [0, 1] rfl rfl dX10_restore_2 ?_
    intro _ _
    dsimp only [jpush]
    refine J.astore_n g dX10_restore_5 rfl rfl rfl ?_
    try dsimp only [List.set_cons_zero, List.set_cons_succ]
    refine J.aload_n g dX10_restore_6 rfl rfl ?_
    refine J.ifnull g dX10_restore_7 ?_
    refine J.aload_n g dX10_restore_10 rfl rfl ?_
    refine J.callV0 g (c_X1_isKept l γ _ _ _ _ ) jy_X1_isKept lm_X10_283 (q0 := 2) rfl jX1.1 ⟨⟨Nat.le_of_ble_eq_true rfl, Nat.le_of_ble_eq_true rfl⟩, Nat.le_of_ble_eq_true rfl, Nat.le_of_ble_eq_true rfl⟩ (Nat.le_of_ble_eq_true rfl) rfl [2] rfl rfl dX10_restore_11 ?_
    intro _ _
    dsimp only [jpush]
    refine J.if_neB g dX10_restore_14 (tgt := 19) (by decide) (fun c_14 => absurd c_14 (by rw [hkk] at c_14; cases c_14)) (fun c_14 => ?_)
    refine J.iconstN g 0 dX10_restore_17 ?_
    exact J.zret (by first | rfl | exact j_nz _) g hE () (jB_f (by rfl)) trivial rfl ⟨Nat.le_of_ble_eq_true rfl, Nat.le_of_ble_eq_true rfl⟩ dX10_restore_18
  · refine J.aload_n g dX10_restore_0 rfl rfl ?_
    refine J.iload_n g dX10_restore_1 rfl rfl ?_
    refine J.callV0 g (c_X10_imageAt_yes l γ _ _ _ _ _ _ _ _ _ _ _ _ _ _ _ _ (by decide)) jy_X10_imageAt lm_X10_277 (q0 := 0) rfl jX10.1 ⟨⟨Nat.le_of_ble_eq_true rfl, Nat.le_of_ble_eq_true rfl⟩, Nat.le_of_ble_eq_true rfl, Nat.le_of_ble_eq_true rfl⟩ (Nat.le_of_ble_eq_true rfl) rfl [0, 1] rfl rfl dX10_restore_2 ?_
    intro _ _
    dsimp only [jpush]
    refine J.astore_n g dX10_restore_5 rfl rfl rfl ?_
    try dsimp only [List.set_cons_zero, List.set_cons_succ]
    refine J.aload_n g dX10_restore_6 rfl rfl ?_
    refine J.ifnull g dX10_restore_7 ?_
    refine J.aload_n g dX10_restore_10 rfl rfl ?_
    refine J.callV0 g (c_X1_isKept l γ _ _ _ _ ) jy_X1_isKept lm_X10_283 (q0 := 5) rfl jX1.1 ⟨⟨Nat.le_of_ble_eq_true rfl, Nat.le_of_ble_eq_true rfl⟩, Nat.le_of_ble_eq_true rfl, Nat.le_of_ble_eq_true rfl⟩ (Nat.le_of_ble_eq_true rfl) rfl [5] rfl rfl dX10_restore_11 ?_
    intro _ _
    dsimp only [jpush]
    refine J.if_neB g dX10_restore_14 (tgt := 19) (by decide) (fun c_14 => absurd c_14 (by rw [hkk] at c_14; cases c_14)) (fun c_14 => ?_)
    refine J.iconstN g 0 dX10_restore_17 ?_
    exact J.zret (by first | rfl | exact j_nz _) g hE () (jB_f (by rfl)) trivial rfl ⟨Nat.le_of_ble_eq_true rfl, Nat.le_of_ble_eq_true rfl⟩ dX10_restore_18
set_option maxHeartbeats 4000000 in
set_option maxRecDepth 100000 in
theorem c_X10_restore_no (l : Launch) (γ : jγ) (ns tp rd gr rw tr oo pa iq sr sgn pp mu : Nat) (dsd : Int32) (ia : Nat → Nat) (w : Int32) (hw : jhas w 2 = false) : jM (S := Unit) l γ yX10_restore cX10_restore 3 (some .boolean) ({ frames := 6, cells := 0, slots := 0, locals := 135 } : Room) [.ref ns, .int w] [(ns, .inr (10, [.ref tp, .ref rd, .ref gr, .ref rw, .ref tr, .ref oo, .ref pa, .ref iq, .ref sr, .ref sgn, .ref pp, .ref mu, .int dsd])), (iq, .inl (γ.2 6, 2, .inr (.inr (.inr (.inr (fun i => some (ia i)))))))] (fun w0 => some (.int (jB false))) (fun w0 => [(ns, .inr (10, [.ref tp, .ref rd, .ref gr, .ref rw, .ref tr, .ref oo, .ref pa, .ref iq, .ref sr, .ref sgn, .ref pp, .ref mu, .int dsd])), (iq, .inl (γ.2 6, 2, .inr (.inr (.inr (.inr (fun i => some (ia i)))))))]) (fun w0 => True) := by
  refine jM.of [some (.ref ns), some (.int w), none] rfl (Nat.le_of_ble_eq_true rfl) (by decide) ?_
  intro x g hE hin
  refine J.aload_n g dX10_restore_0 rfl rfl ?_
  refine J.iload_n g dX10_restore_1 rfl rfl ?_
  refine J.callV0 g (c_X10_imageAt_no l γ _ _ _ _ _ _ _ _ _ _ _ _ _ _ _ _ hw) jy_X10_imageAt lm_X10_277 (q0 := 0) rfl jX10.1 ⟨⟨Nat.le_of_ble_eq_true rfl, Nat.le_of_ble_eq_true rfl⟩, Nat.le_of_ble_eq_true rfl, Nat.le_of_ble_eq_true rfl⟩ (Nat.le_of_ble_eq_true rfl) rfl [0, 1] rfl rfl dX10_restore_2 ?_
  intro _ _
  dsimp only [jpush]
  refine J.astore_nN g dX10_restore_5 rfl rfl rfl ?_
  try dsimp only [List.set_cons_zero, List.set_cons_succ]
  refine J.aload_nN g dX10_restore_6 rfl rfl ?_
  refine J.ifnullN g dX10_restore_7 (tgt := 17) (by decide) ?_
  refine J.iconstN g 0 dX10_restore_17 ?_
  exact J.zret (by first | rfl | exact j_nz _) g hE () (jB_f (by rfl)) trivial rfl ⟨Nat.le_of_ble_eq_true rfl, Nat.le_of_ble_eq_true rfl⟩ dX10_restore_18
set_option maxHeartbeats 4000000 in
set_option maxRecDepth 100000 in
theorem c_X10_text_bad (l : Launch) (γ : jγ) (ns tp rd gr rw tr oo pa iq sr sgn pp mu : Nat) (dsd : Int32) (tb tl rr rre : Nat) (tf : Nat → Int32) (q : jRS) (hl : tl ≤ 340) (hq : jRB q) (hk : ¬ (jRes tf tl q).2.2.1.1 = 0) : jM (S := jRS) l γ yX10_text cX10_text 1 (some .int) ({ frames := 9, cells := 0, slots := 0, locals := 202 } : Room) [.ref ns] [(ns, .inr (10, [.ref tp, .ref rd, .ref gr, .ref rw, .ref tr, .ref oo, .ref pa, .ref iq, .ref sr, .ref sgn, .ref pp, .ref mu, .int dsd])), (rd, .inr (5, [.ref tp, .int (nI q.1.1), .int (nI q.1.2.1), .int (nI q.1.2.2.1), .int (nI q.1.2.2.2), .int (nI q.2.1.1), .int (nI q.2.1.2), .int (nI q.2.2.1.1), .int (nI q.2.2.1.2.1), .int q.2.2.1.2.2, .ref rr])), (tp, .inr (9, [.ref tb, .int (nI tl)])), (tb, .inl (γ.2 1, 340, .inl tf)), (rr, .inr (6, [.ref rre, .int (nI q.2.2.2.1)])), (rre, .inl (γ.2 0, 12, .inl (fun j => nI ((q.2.2.2.2) j))))] (fun u => some (.int (-1 - nI (jRes tf tl q).2.2.1.2.1))) (fun u => [(ns, .inr (10, [.ref tp, .ref rd, .ref gr, .ref rw, .ref tr, .ref oo, .ref pa, .ref iq, .ref sr, .ref sgn, .ref pp, .ref mu, .int dsd])), (rd, .inr (5, [.ref tp, .int (nI u.1.1), .int (nI u.1.2.1), .int (nI u.1.2.2.1), .int (nI u.1.2.2.2), .int (nI u.2.1.1), .int (nI u.2.1.2), .int (nI u.2.2.1.1), .int (nI u.2.2.1.2.1), .int u.2.2.1.2.2, .ref rr])), (tp, .inr (9, [.ref tb, .int (nI 0)])), (tb, .inl (γ.2 1, 340, .inl tf)), (rr, .inr (6, [.ref rre, .int (nI u.2.2.2.1)])), (rre, .inl (γ.2 0, 12, .inl (fun j => nI ((u.2.2.2.2) j))))]) (fun u => u = jRes tf tl q) := by
  refine jM.of [some (.ref ns)] rfl (Nat.le_of_ble_eq_true rfl) (by decide) ?_
  intro x g hE hin
  have hqb : jRB (jRes tf tl q) := jRes_b hl hq
  refine J.aload_n g dX10_text_0 rfl rfl ?_
  refine J.get g jX10 1 (by decide) lf_X10_12 0 rfl rfl dX10_text_1 ?_
  refine J.callV g (c_X5_readWhole l γ _ _ _ _ _ _ _ _ hl hq) jy_X5_readWhole lm_X10_103 (q0 := 1) rfl jX5.1 ⟨⟨Nat.le_of_ble_eq_true rfl, Nat.le_of_ble_eq_true rfl⟩, Nat.le_of_ble_eq_true rfl, Nat.le_of_ble_eq_true rfl⟩ (Nat.le_of_ble_eq_true rfl) rfl [1, 2, 3, 4, 5] rfl (fun _ => rfl) rfl dX10_text_4 ?_
  intro u_4 h_4
  dsimp only [jput, List.set_cons_zero, List.set_cons_succ, Option.toList, List.append, List.cons_append, List.nil_append, List.append_nil]
  replace h_4 : u_4 = jRes tf tl q := h_4
  have hqu : jRB u_4 := by rw [h_4]; exact hqb
  refine J.aload_n g dX10_text_7 rfl rfl ?_
  refine J.get g jX10 0 (by decide) lf_X10_20 0 rfl rfl dX10_text_8 ?_
  refine J.iconstN g 0 dX10_text_11 ?_
  refine J.callV g (c_X9_cutTo l γ _ _ _ _ _ hl) jy_X9_cutTo lm_X10_99 (q0 := 2) rfl jX9.1 ⟨⟨Nat.le_of_ble_eq_true rfl, Nat.le_of_ble_eq_true rfl⟩, Nat.le_of_ble_eq_true rfl, Nat.le_of_ble_eq_true rfl⟩ (Nat.le_of_ble_eq_true rfl) rfl [2, 3] rfl (fun _ => rfl) rfl dX10_text_12 ?_
  intro _ _
  dsimp only [jput, List.set_cons_zero, List.set_cons_succ, Option.toList, List.append, List.cons_append, List.nil_append, List.append_nil]
  rw [jcutn_0]
  refine J.pop g dX10_text_15 rfl ?_
  refine J.aload_n g dX10_text_16 rfl rfl ?_
  refine J.get g jX10 1 (by decide) lf_X10_12 0 rfl rfl dX10_text_17 ?_
  refine J.callV0 g (c_X5_faultKind l γ _ _ _ _ ) jy_X5_faultKind lm_X10_106 (q0 := 1) rfl jX5.1 ⟨⟨Nat.le_of_ble_eq_true rfl, Nat.le_of_ble_eq_true rfl⟩, Nat.le_of_ble_eq_true rfl, Nat.le_of_ble_eq_true rfl⟩ (Nat.le_of_ble_eq_true rfl) rfl [1] rfl rfl dX10_text_20 ?_
  intro _ _
  dsimp only [jpush]
  refine J.if_eqN g dX10_text_23 (tgt := 36) (by decide) (by have := hqu.2.2.1.1; omega) (fun c_23 => absurd c_23 (by rw [h_4]; exact hk)) (fun c_23 => ?_)
  refine J.iconst (v := -1) g dX10_text_26 (by decide) ?_
  refine J.aload_n g dX10_text_27 rfl rfl ?_
  refine J.get g jX10 1 (by decide) lf_X10_12 0 rfl rfl dX10_text_28 ?_
  refine J.callV0 g (c_X5_faultPlace l γ _ _ _ _ ) jy_X5_faultPlace lm_X10_109 (q0 := 1) rfl jX5.1 ⟨⟨Nat.le_of_ble_eq_true rfl, Nat.le_of_ble_eq_true rfl⟩, Nat.le_of_ble_eq_true rfl, Nat.le_of_ble_eq_true rfl⟩ (Nat.le_of_ble_eq_true rfl) rfl [1] rfl rfl dX10_text_31 ?_
  intro _ _
  dsimp only [jpush]
  refine J.isub g dX10_text_34 ?_
  exact J.iret g hE u_4 (by rw [h_4]) h_4 rfl ⟨Nat.le_of_ble_eq_true rfl, Nat.le_of_ble_eq_true rfl⟩ dX10_text_35
set_option maxHeartbeats 4000000 in
set_option maxRecDepth 100000 in
theorem c_X10_text_good (l : Launch) (γ : jγ) (ns tp rd gr rw tr oo pa iq sr sgn pp mu : Nat) (dsd : Int32) (rwe n : Nat) (f : Nat → Nat) (mk ag cd pt od ex : Nat) (mf af : Nat → Nat) (rq nx pl : Nat) (tb tl rr rre : Nat) (tf : Nat → Int32) (q : jRS) (hl : tl ≤ 340) (hq : jRB q) (hk : (jRes tf tl q).2.2.1.1 = 0) (hG : gIs cd pt od ex mf af) (hc : (jRes tf tl q).2.1.1 ∈ jcodes) : jM (S := jRS × ((Nat → Nat) × (Nat → Nat)) × (Nat → Nat)) l γ yX10_text cX10_text 1 (some .int) ({ frames := 9, cells := 0, slots := 0, locals := 202 } : Room) [.ref ns] [(ns, .inr (10, [.ref tp, .ref rd, .ref gr, .ref rw, .ref tr, .ref oo, .ref pa, .ref iq, .ref sr, .ref sgn, .ref pp, .ref mu, .int dsd])), (rd, .inr (5, [.ref tp, .int (nI q.1.1), .int (nI q.1.2.1), .int (nI q.1.2.2.1), .int (nI q.1.2.2.2), .int (nI q.2.1.1), .int (nI q.2.1.2), .int (nI q.2.2.1.1), .int (nI q.2.2.1.2.1), .int q.2.2.1.2.2, .ref rr])), (tp, .inr (9, [.ref tb, .int (nI tl)])), (tb, .inl (γ.2 1, 340, .inl tf)), (rr, .inr (6, [.ref rre, .int (nI q.2.2.2.1)])), (rre, .inl (γ.2 0, 12, .inl (fun j => nI ((q.2.2.2.2) j)))), (rw, .inr (6, [.ref rwe, .int (nI n)])), (rwe, .inl (γ.2 0, 12, .inl (fun j => nI (f j)))), (gr, .inr (0, [.ref mk, .ref ag, .int (nI cd), .int (nI pt), .int (nI od), .int (nI ex)])), (mk, .inl (γ.2 1, 576, .inl (fun j => nI (mf j)))), (ag, .inl (γ.2 1, 24, .inl (fun j => nI (af j)))), (pa, .inr (4, [.ref rq, .int (nI nx), .int (nI pl)]))] (fun u => some (.int (nI ((jRes tf tl q).2.1.2)))) (fun u => [(ns, .inr (10, [.ref tp, .ref rd, .ref gr, .ref rw, .ref tr, .ref oo, .ref pa, .ref iq, .ref sr, .ref sgn, .ref pp, .ref mu, .int dsd])), (rd, .inr (5, [.ref tp, .int (nI u.1.1.1), .int (nI u.1.1.2.1), .int (nI u.1.1.2.2.1), .int (nI u.1.1.2.2.2), .int (nI u.1.2.1.1), .int (nI u.1.2.1.2), .int (nI u.1.2.2.1.1), .int (nI u.1.2.2.1.2.1), .int u.1.2.2.1.2.2, .ref rr])), (tp, .inr (9, [.ref tb, .int (nI 0)])), (tb, .inl (γ.2 1, 340, .inl tf)), (rr, .inr (6, [.ref rre, .int (nI u.1.2.2.2.1)])), (rre, .inl (γ.2 0, 12, .inl (fun j => nI ((u.1.2.2.2.2) j)))), (rw, .inr (6, [.ref rwe, .int (nI u.1.2.2.2.1)])), (rwe, .inl (γ.2 0, 12, .inl (fun j => nI (u.2.2 j)))), (gr, .inr (0, [.ref mk, .ref ag, .int (nI u.1.2.1.1), .int (nI (gpt u.1.2.1.1)), .int (nI (god u.1.2.1.1)), .int (nI (gex u.1.2.1.1))])), (mk, .inl (γ.2 1, 576, .inl (fun j => nI (u.2.1.1 j)))), (ag, .inl (γ.2 1, 24, .inl (fun j => nI (u.2.1.2 j)))), (pa, .inr (4, [.ref rq, .int (nI nx), .int (nI 0)]))]) (fun u => u.1 = jRes tf tl q ∧ gIs u.1.2.1.1 (gpt u.1.2.1.1) (god u.1.2.1.1) (gex u.1.2.1.1) u.2.1.1 u.2.1.2 ∧ ∀ k, k < u.1.2.2.2.1 → u.2.2 k = u.1.2.2.2.2 k) := by
  refine jM.of [some (.ref ns)] rfl (Nat.le_of_ble_eq_true rfl) (by decide) ?_
  intro x g hE hin
  have hqb : jRB (jRes tf tl q) := jRes_b hl hq
  refine J.aload_n g dX10_text_0 rfl rfl ?_
  refine J.get g jX10 1 (by decide) lf_X10_12 0 rfl rfl dX10_text_1 ?_
  refine J.callV g (c_X5_readWhole l γ _ _ _ _ _ _ _ _ hl hq) jy_X5_readWhole lm_X10_103 (q0 := 1) rfl jX5.1 ⟨⟨Nat.le_of_ble_eq_true rfl, Nat.le_of_ble_eq_true rfl⟩, Nat.le_of_ble_eq_true rfl, Nat.le_of_ble_eq_true rfl⟩ (Nat.le_of_ble_eq_true rfl) rfl [1, 2, 3, 4, 5] rfl (fun _ => rfl) rfl dX10_text_4 ?_
  intro u_4 h_4
  dsimp only [jput, List.set_cons_zero, List.set_cons_succ, Option.toList, List.append, List.cons_append, List.nil_append, List.append_nil]
  replace h_4 : u_4 = jRes tf tl q := h_4
  have hqu : jRB u_4 := by rw [h_4]; exact hqb
  refine J.aload_n g dX10_text_7 rfl rfl ?_
  refine J.get g jX10 0 (by decide) lf_X10_20 0 rfl rfl dX10_text_8 ?_
  refine J.iconstN g 0 dX10_text_11 ?_
  refine J.callV g (c_X9_cutTo l γ _ _ _ _ _ hl) jy_X9_cutTo lm_X10_99 (q0 := 2) rfl jX9.1 ⟨⟨Nat.le_of_ble_eq_true rfl, Nat.le_of_ble_eq_true rfl⟩, Nat.le_of_ble_eq_true rfl, Nat.le_of_ble_eq_true rfl⟩ (Nat.le_of_ble_eq_true rfl) rfl [2, 3] rfl (fun _ => rfl) rfl dX10_text_12 ?_
  intro _ _
  dsimp only [jput, List.set_cons_zero, List.set_cons_succ, Option.toList, List.append, List.cons_append, List.nil_append, List.append_nil]
  rw [jcutn_0]
  refine J.pop g dX10_text_15 rfl ?_
  refine J.aload_n g dX10_text_16 rfl rfl ?_
  refine J.get g jX10 1 (by decide) lf_X10_12 0 rfl rfl dX10_text_17 ?_
  refine J.callV0 g (c_X5_faultKind l γ _ _ _ _ ) jy_X5_faultKind lm_X10_106 (q0 := 1) rfl jX5.1 ⟨⟨Nat.le_of_ble_eq_true rfl, Nat.le_of_ble_eq_true rfl⟩, Nat.le_of_ble_eq_true rfl, Nat.le_of_ble_eq_true rfl⟩ (Nat.le_of_ble_eq_true rfl) rfl [1] rfl rfl dX10_text_20 ?_
  intro _ _
  dsimp only [jpush]
  refine J.if_eqN g dX10_text_23 (tgt := 36) (by decide) (by have := hqu.2.2.1.1; omega) (fun c_23 => ?_) (fun c_23 => absurd hk (by rw [← h_4]; exact c_23))
  refine J.aload_n g dX10_text_36 rfl rfl ?_
  refine J.get g jX10 2 (by decide) lf_X10_26 0 rfl rfl dX10_text_37 ?_
  refine J.aload_n g dX10_text_40 rfl rfl ?_
  refine J.get g jX10 1 (by decide) lf_X10_12 0 rfl rfl dX10_text_41 ?_
  refine J.callV0 g (c_X5_groupCode l γ _ _ _ _ ) jy_X5_groupCode lm_X10_112 (q0 := 1) rfl jX5.1 ⟨⟨Nat.le_of_ble_eq_true rfl, Nat.le_of_ble_eq_true rfl⟩, Nat.le_of_ble_eq_true rfl, Nat.le_of_ble_eq_true rfl⟩ (Nat.le_of_ble_eq_true rfl) rfl [1] rfl rfl dX10_text_44 ?_
  intro _ _
  dsimp only [jpush]
  refine J.callV g (c_X0_become l γ _ _ _ _ _ _ _ _ _ _ hG (by rw [h_4]; exact hc)) jy_X0_become lm_X10_115 (q0 := 8) rfl jX0.1 ⟨⟨Nat.le_of_ble_eq_true rfl, Nat.le_of_ble_eq_true rfl⟩, Nat.le_of_ble_eq_true rfl, Nat.le_of_ble_eq_true rfl⟩ (Nat.le_of_ble_eq_true rfl) rfl [8, 9, 10] rfl (fun _ => rfl) rfl dX10_text_47 ?_
  intro u_47 h_47
  dsimp only [jput, List.set_cons_zero, List.set_cons_succ, Option.toList, List.append, List.cons_append, List.nil_append, List.append_nil]
  refine J.aload_n g dX10_text_50 rfl rfl ?_
  refine J.get g jX10 3 (by decide) lf_X10_33 0 rfl rfl dX10_text_51 ?_
  refine J.aload_n g dX10_text_54 rfl rfl ?_
  refine J.get g jX10 1 (by decide) lf_X10_12 0 rfl rfl dX10_text_55 ?_
  refine J.callV0 g (c_X5_rowRead l γ _ _ _ _ ) jy_X5_rowRead lm_X10_118 (q0 := 1) rfl jX5.1 ⟨⟨Nat.le_of_ble_eq_true rfl, Nat.le_of_ble_eq_true rfl⟩, Nat.le_of_ble_eq_true rfl, Nat.le_of_ble_eq_true rfl⟩ (Nat.le_of_ble_eq_true rfl) rfl [1] rfl rfl dX10_text_58 ?_
  intro _ _
  dsimp only [jpush]
  refine J.callV g (c_X6_copyFrom l γ _ _ _ _ _ _ _ _ hqu.2.2.2) jy_X6_copyFrom lm_X10_122 (q0 := 6) rfl jX6.1 ⟨⟨Nat.le_of_ble_eq_true rfl, Nat.le_of_ble_eq_true rfl⟩, Nat.le_of_ble_eq_true rfl, Nat.le_of_ble_eq_true rfl⟩ (Nat.le_of_ble_eq_true rfl) rfl [6, 7, 4, 5] rfl (fun _ => rfl) rfl dX10_text_61 ?_
  intro u_61 h_61
  dsimp only [jput, List.set_cons_zero, List.set_cons_succ, Option.toList, List.append, List.cons_append, List.nil_append, List.append_nil]
  refine J.aload_n g dX10_text_64 rfl rfl ?_
  refine J.get g jX10 6 (by decide) lf_X10_46 0 rfl rfl dX10_text_65 ?_
  refine J.callV g (c_X4_forget l γ _ _ _ _ ) jy_X4_forget lm_X10_126 (q0 := 11) rfl jX4.1 ⟨⟨Nat.le_of_ble_eq_true rfl, Nat.le_of_ble_eq_true rfl⟩, Nat.le_of_ble_eq_true rfl, Nat.le_of_ble_eq_true rfl⟩ (Nat.le_of_ble_eq_true rfl) rfl [11] rfl (fun _ => rfl) rfl dX10_text_68 ?_
  intro _ _
  dsimp only [jput, List.set_cons_zero, List.set_cons_succ, Option.toList, List.append, List.cons_append, List.nil_append, List.append_nil]
  refine J.aload_n g dX10_text_71 rfl rfl ?_
  refine J.get g jX10 1 (by decide) lf_X10_12 0 rfl rfl dX10_text_72 ?_
  refine J.callV0 g (c_X5_rowsRead l γ _ _ _ _ ) jy_X5_rowsRead lm_X10_129 (q0 := 1) rfl jX5.1 ⟨⟨Nat.le_of_ble_eq_true rfl, Nat.le_of_ble_eq_true rfl⟩, Nat.le_of_ble_eq_true rfl, Nat.le_of_ble_eq_true rfl⟩ (Nat.le_of_ble_eq_true rfl) rfl [1] rfl rfl dX10_text_75 ?_
  intro _ _
  dsimp only [jpush]
  exact J.iret g hE (u_4, u_47, u_61) (by rw [h_4]) ⟨h_4, h_47, h_61⟩ rfl ⟨Nat.le_of_ble_eq_true rfl, Nat.le_of_ble_eq_true rfl⟩ dX10_text_78
