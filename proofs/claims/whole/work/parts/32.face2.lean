set_option maxHeartbeats 4000000 in
set_option maxRecDepth 100000 in
theorem c_X10_go_yes (l : Launch) (γ : jγ) (ns tp rd gr rw tr oo pa iq sr sgn pp mu : Nat) (dsd : Int32) (rwe n : Nat) (f : Nat → Nat) (rq nx pl : Nat) (ra re ln : Nat → Nat) (rf : Nat → Nat → Nat) (k : Nat) (hx : nx < 8) (hp : pl ≤ 8) (hn : n ≤ 12) (hk : k < n) : jM (S := (Nat → Nat) × (Nat → Nat)) l γ yX10_go cX10_go 2 (some .int) ({ frames := 2, cells := 0, slots := 0, locals := 46 } : Room) [.ref ns, .int (nI k)] [(ns, .inr (10, [.ref tp, .ref rd, .ref gr, .ref rw, .ref tr, .ref oo, .ref pa, .ref iq, .ref sr, .ref sgn, .ref pp, .ref mu, .int dsd])), (rw, .inr (6, [.ref rwe, .int (nI n)])), (rwe, .inl (γ.2 0, 12, .inl (fun j => nI (f j)))), (pa, .inr (4, [.ref rq, .int (nI nx), .int (nI pl)])), (rq, .inl (γ.2 5, 8, .inr (.inr (.inr (.inr (fun i => some (ra i))))))), ((ra 0), .inr (6, [.ref (re 0), .int (nI (ln 0))])), ((re 0), .inl (γ.2 0, 12, .inl (fun j => nI ((rf 0) j)))), ((ra 1), .inr (6, [.ref (re 1), .int (nI (ln 1))])), ((re 1), .inl (γ.2 0, 12, .inl (fun j => nI ((rf 1) j)))), ((ra 2), .inr (6, [.ref (re 2), .int (nI (ln 2))])), ((re 2), .inl (γ.2 0, 12, .inl (fun j => nI ((rf 2) j)))), ((ra 3), .inr (6, [.ref (re 3), .int (nI (ln 3))])), ((re 3), .inl (γ.2 0, 12, .inl (fun j => nI ((rf 3) j)))), ((ra 4), .inr (6, [.ref (re 4), .int (nI (ln 4))])), ((re 4), .inl (γ.2 0, 12, .inl (fun j => nI ((rf 4) j)))), ((ra 5), .inr (6, [.ref (re 5), .int (nI (ln 5))])), ((re 5), .inl (γ.2 0, 12, .inl (fun j => nI ((rf 5) j)))), ((ra 6), .inr (6, [.ref (re 6), .int (nI (ln 6))])), ((re 6), .inl (γ.2 0, 12, .inl (fun j => nI ((rf 6) j)))), ((ra 7), .inr (6, [.ref (re 7), .int (nI (ln 7))])), ((re 7), .inl (γ.2 0, 12, .inl (fun j => nI ((rf 7) j))))] (fun z => some (.int (nI (n - 1)))) (fun z => [(ns, .inr (10, [.ref tp, .ref rd, .ref gr, .ref rw, .ref tr, .ref oo, .ref pa, .ref iq, .ref sr, .ref sgn, .ref pp, .ref mu, .int dsd])), (rw, .inr (6, [.ref rwe, .int (nI (n - 1))])), (rwe, .inl (γ.2 0, 12, .inl (fun j => nI (z.2 j)))), (pa, .inr (4, [.ref rq, .int (nI (if nx + 1 < 8 then nx + 1 else 0)), .int (nI (if 8 < pl + 1 then 8 else pl + 1))])), (rq, .inl (γ.2 5, 8, .inr (.inr (.inr (.inr (fun i => some (ra i))))))), ((ra 0), .inr (6, [.ref (re 0), .int (nI ((va_up ln nx n) 0))])), ((re 0), .inl (γ.2 0, 12, .inl (fun j => nI (((va_up rf nx z.1) 0) j)))), ((ra 1), .inr (6, [.ref (re 1), .int (nI ((va_up ln nx n) 1))])), ((re 1), .inl (γ.2 0, 12, .inl (fun j => nI (((va_up rf nx z.1) 1) j)))), ((ra 2), .inr (6, [.ref (re 2), .int (nI ((va_up ln nx n) 2))])), ((re 2), .inl (γ.2 0, 12, .inl (fun j => nI (((va_up rf nx z.1) 2) j)))), ((ra 3), .inr (6, [.ref (re 3), .int (nI ((va_up ln nx n) 3))])), ((re 3), .inl (γ.2 0, 12, .inl (fun j => nI (((va_up rf nx z.1) 3) j)))), ((ra 4), .inr (6, [.ref (re 4), .int (nI ((va_up ln nx n) 4))])), ((re 4), .inl (γ.2 0, 12, .inl (fun j => nI (((va_up rf nx z.1) 4) j)))), ((ra 5), .inr (6, [.ref (re 5), .int (nI ((va_up ln nx n) 5))])), ((re 5), .inl (γ.2 0, 12, .inl (fun j => nI (((va_up rf nx z.1) 5) j)))), ((ra 6), .inr (6, [.ref (re 6), .int (nI ((va_up ln nx n) 6))])), ((re 6), .inl (γ.2 0, 12, .inl (fun j => nI (((va_up rf nx z.1) 6) j)))), ((ra 7), .inr (6, [.ref (re 7), .int (nI ((va_up ln nx n) 7))])), ((re 7), .inl (γ.2 0, 12, .inl (fun j => nI (((va_up rf nx z.1) 7) j))))]) (fun z => (∀ j, j < n → z.1 j = f j) ∧ ∀ j, z.2 j = if k ≤ j ∧ j < n - 1 then f (j + 1) else f j) := by
  refine jM.of [some (.ref ns), some (.int (nI k))] rfl (Nat.le_of_ble_eq_true rfl) (by decide) ?_
  intro x g hE hin
  refine J.aload_n g dX10_go_0 rfl rfl ?_
  refine J.get g jX10 3 (by decide) lf_X10_33 0 rfl rfl dX10_go_1 ?_
  refine J.iload_n g dX10_go_4 rfl rfl ?_
  refine J.callV0 g (c_X6_has_n l γ _ _ _ _ _ hn (by omega)) jy_X6_has lm_X10_229 (q0 := 1) rfl jX6.1 ⟨⟨Nat.le_of_ble_eq_true rfl, Nat.le_of_ble_eq_true rfl⟩, Nat.le_of_ble_eq_true rfl, Nat.le_of_ble_eq_true rfl⟩ (Nat.le_of_ble_eq_true rfl) rfl [1, 2] rfl rfl dX10_go_5 ?_
  intro _ _
  dsimp only [jpush]
  refine J.if_neB g dX10_go_8 (tgt := 13) (by decide) (fun c_8 => ?_) (fun c_8 => absurd c_8 (by simp [hk]))
  refine J.aload_n g dX10_go_13 rfl rfl ?_
  refine J.get g jX10 6 (by decide) lf_X10_46 0 rfl rfl dX10_go_14 ?_
  refine J.aload_n g dX10_go_17 rfl rfl ?_
  refine J.get g jX10 3 (by decide) lf_X10_33 0 rfl rfl dX10_go_18 ?_
  refine J.callV g (c_X4_keep l γ _ _ _ _ _ _ _ _ _ _ _ _ hx hp hn) jy_X4_keep lm_X10_259 (q0 := 3) rfl jX4.1 ⟨⟨Nat.le_of_ble_eq_true rfl, Nat.le_of_ble_eq_true rfl⟩, Nat.le_of_ble_eq_true rfl, Nat.le_of_ble_eq_true rfl⟩ (Nat.le_of_ble_eq_true rfl) rfl [3, 4, 5, 6, 7, 8, 9, 10, 11, 12, 13, 14, 15, 16, 17, 18, 19, 20, 1, 2] rfl (fun _ => rfl) rfl dX10_go_21 ?_
  intro u_21 h_21
  dsimp only [jput, List.set_cons_zero, List.set_cons_succ, Option.toList, List.append, List.cons_append, List.nil_append, List.append_nil]
  refine J.aload_n g dX10_go_24 rfl rfl ?_
  refine J.get g jX10 3 (by decide) lf_X10_33 0 rfl rfl dX10_go_25 ?_
  refine J.iload_n g dX10_go_28 rfl rfl ?_
  refine J.callV g (c_X6_remove l γ _ _ _ _ _ hn hk) jy_X6_remove lm_X10_265 (q0 := 1) rfl jX6.1 ⟨⟨Nat.le_of_ble_eq_true rfl, Nat.le_of_ble_eq_true rfl⟩, Nat.le_of_ble_eq_true rfl, Nat.le_of_ble_eq_true rfl⟩ (Nat.le_of_ble_eq_true rfl) rfl [1, 2] rfl (fun _ => rfl) rfl dX10_go_29 ?_
  intro u_29 h_29
  dsimp only [jput, List.set_cons_zero, List.set_cons_succ, Option.toList, List.append, List.cons_append, List.nil_append, List.append_nil]
  refine J.pop g dX10_go_32 rfl ?_
  refine J.aload_n g dX10_go_33 rfl rfl ?_
  refine J.get g jX10 3 (by decide) lf_X10_33 0 rfl rfl dX10_go_34 ?_
  refine J.callV0 g (c_X6_length l γ _ _ _ _ ) jy_X6_length lm_X10_144 (q0 := 1) rfl jX6.1 ⟨⟨Nat.le_of_ble_eq_true rfl, Nat.le_of_ble_eq_true rfl⟩, Nat.le_of_ble_eq_true rfl, Nat.le_of_ble_eq_true rfl⟩ (Nat.le_of_ble_eq_true rfl) rfl [1, 2] rfl rfl dX10_go_37 ?_
  intro _ _
  dsimp only [jpush]
  exact J.iret g hE (u_21, u_29) rfl ⟨h_21, h_29⟩ rfl ⟨Nat.le_of_ble_eq_true rfl, Nat.le_of_ble_eq_true rfl⟩ dX10_go_40
set_option maxHeartbeats 4000000 in
set_option maxRecDepth 100000 in
theorem c_X10_undo_no (l : Launch) (γ : jγ) (ns tp rd gr rw tr oo pa iq sr sgn pp mu : Nat) (dsd : Int32) (rq nx pl : Nat) (h0 : pl = 0) : jM (S := Unit) l γ yX10_undo cX10_undo 1 (some .int) ({ frames := 2, cells := 0, slots := 0, locals := 45 } : Room) [.ref ns] [(ns, .inr (10, [.ref tp, .ref rd, .ref gr, .ref rw, .ref tr, .ref oo, .ref pa, .ref iq, .ref sr, .ref sgn, .ref pp, .ref mu, .int dsd])), (pa, .inr (4, [.ref rq, .int (nI nx), .int (nI pl)]))] (fun w0 => some (.int (-1))) (fun w0 => [(ns, .inr (10, [.ref tp, .ref rd, .ref gr, .ref rw, .ref tr, .ref oo, .ref pa, .ref iq, .ref sr, .ref sgn, .ref pp, .ref mu, .int dsd])), (pa, .inr (4, [.ref rq, .int (nI nx), .int (nI pl)]))]) (fun w0 => True) := by
  refine jM.of [some (.ref ns)] rfl (Nat.le_of_ble_eq_true rfl) (by decide) ?_
  intro x g hE hin
  refine J.aload_n g dX10_undo_0 rfl rfl ?_
  refine J.get g jX10 6 (by decide) lf_X10_46 0 rfl rfl dX10_undo_1 ?_
  refine J.callV0 g (c_X4_length l γ _ _ _ _ ) jy_X4_length lm_X10_148 (q0 := 1) rfl jX4.1 ⟨⟨Nat.le_of_ble_eq_true rfl, Nat.le_of_ble_eq_true rfl⟩, Nat.le_of_ble_eq_true rfl, Nat.le_of_ble_eq_true rfl⟩ (Nat.le_of_ble_eq_true rfl) rfl [1] rfl rfl dX10_undo_4 ?_
  intro _ _
  dsimp only [jpush]
  refine J.if_neN g dX10_undo_7 (tgt := 12) (by decide) (by omega) (fun c_7 => absurd c_7 (by omega)) (fun c_7 => ?_)
  refine J.iconst (v := -1) g dX10_undo_10 (by decide) ?_
  exact J.iret g hE () rfl trivial rfl ⟨Nat.le_of_ble_eq_true rfl, Nat.le_of_ble_eq_true rfl⟩ dX10_undo_11
set_option maxHeartbeats 4000000 in
set_option maxRecDepth 100000 in
theorem c_X10_go_no (l : Launch) (γ : jγ) (ns tp rd gr rw tr oo pa iq sr sgn pp mu : Nat) (dsd : Int32) (rwe n : Nat) (f : Nat → Nat) (k : Int32) (hn : n ≤ 12) (hk : jhas k n = false) : jM (S := Unit) l γ yX10_go cX10_go 2 (some .int) ({ frames := 2, cells := 0, slots := 0, locals := 46 } : Room) [.ref ns, .int k] [(ns, .inr (10, [.ref tp, .ref rd, .ref gr, .ref rw, .ref tr, .ref oo, .ref pa, .ref iq, .ref sr, .ref sgn, .ref pp, .ref mu, .int dsd])), (rw, .inr (6, [.ref rwe, .int (nI n)])), (rwe, .inl (γ.2 0, 12, .inl (fun j => nI (f j))))] (fun w0 => some (.int (-1))) (fun w0 => [(ns, .inr (10, [.ref tp, .ref rd, .ref gr, .ref rw, .ref tr, .ref oo, .ref pa, .ref iq, .ref sr, .ref sgn, .ref pp, .ref mu, .int dsd])), (rw, .inr (6, [.ref rwe, .int (nI n)])), (rwe, .inl (γ.2 0, 12, .inl (fun j => nI (f j))))]) (fun w0 => True) := by
  refine jM.of [some (.ref ns), some (.int k)] rfl (Nat.le_of_ble_eq_true rfl) (by decide) ?_
  intro x g hE hin
  refine J.aload_n g dX10_go_0 rfl rfl ?_
  refine J.get g jX10 3 (by decide) lf_X10_33 0 rfl rfl dX10_go_1 ?_
  refine J.iload_n g dX10_go_4 rfl rfl ?_
  refine J.callV0 g (c_X6_has l γ _ _ _ _ _ hn) jy_X6_has lm_X10_229 (q0 := 1) rfl jX6.1 ⟨⟨Nat.le_of_ble_eq_true rfl, Nat.le_of_ble_eq_true rfl⟩, Nat.le_of_ble_eq_true rfl, Nat.le_of_ble_eq_true rfl⟩ (Nat.le_of_ble_eq_true rfl) rfl [1, 2] rfl rfl dX10_go_5 ?_
  intro _ _
  dsimp only [jpush]
  refine J.if_neB g dX10_go_8 (tgt := 13) (by decide) (fun c_8 => absurd c_8 (by simp [hk] at c_8)) (fun c_8 => ?_)
  refine J.iconst (v := -1) g dX10_go_11 (by decide) ?_
  exact J.iret g hE () rfl trivial rfl ⟨Nat.le_of_ble_eq_true rfl, Nat.le_of_ble_eq_true rfl⟩ dX10_go_12
set_option maxHeartbeats 4000000 in
set_option maxRecDepth 100000 in
theorem c_X10_come_yes (l : Launch) (γ : jγ) (ns tp rd gr rw tr oo pa iq sr sgn pp mu : Nat) (dsd : Int32) (rwe n : Nat) (f : Nat → Nat) (mk ag cd pt od ex : Nat) (mf af : Nat → Nat) (rq nx pl : Nat) (ra re ln : Nat → Nat) (rf : Nat → Nat → Nat) (k : Nat) (hx : nx < 8) (hp : pl ≤ 8) (hn : n ≤ 12) (ho : od ≤ 24) (hk : k < od) (h12 : n < 12) : jM (S := Nat → Nat) l γ yX10_come cX10_come 2 (some .int) ({ frames := 2, cells := 0, slots := 0, locals := 46 } : Room) [.ref ns, .int (nI k)] [(ns, .inr (10, [.ref tp, .ref rd, .ref gr, .ref rw, .ref tr, .ref oo, .ref pa, .ref iq, .ref sr, .ref sgn, .ref pp, .ref mu, .int dsd])), (rw, .inr (6, [.ref rwe, .int (nI n)])), (rwe, .inl (γ.2 0, 12, .inl (fun j => nI (f j)))), (gr, .inr (0, [.ref mk, .ref ag, .int (nI cd), .int (nI pt), .int (nI od), .int (nI ex)])), (mk, .inl (γ.2 1, 576, .inl (fun j => nI (mf j)))), (ag, .inl (γ.2 1, 24, .inl (fun j => nI (af j)))), (pa, .inr (4, [.ref rq, .int (nI nx), .int (nI pl)])), (rq, .inl (γ.2 5, 8, .inr (.inr (.inr (.inr (fun i => some (ra i))))))), ((ra 0), .inr (6, [.ref (re 0), .int (nI (ln 0))])), ((re 0), .inl (γ.2 0, 12, .inl (fun j => nI ((rf 0) j)))), ((ra 1), .inr (6, [.ref (re 1), .int (nI (ln 1))])), ((re 1), .inl (γ.2 0, 12, .inl (fun j => nI ((rf 1) j)))), ((ra 2), .inr (6, [.ref (re 2), .int (nI (ln 2))])), ((re 2), .inl (γ.2 0, 12, .inl (fun j => nI ((rf 2) j)))), ((ra 3), .inr (6, [.ref (re 3), .int (nI (ln 3))])), ((re 3), .inl (γ.2 0, 12, .inl (fun j => nI ((rf 3) j)))), ((ra 4), .inr (6, [.ref (re 4), .int (nI (ln 4))])), ((re 4), .inl (γ.2 0, 12, .inl (fun j => nI ((rf 4) j)))), ((ra 5), .inr (6, [.ref (re 5), .int (nI (ln 5))])), ((re 5), .inl (γ.2 0, 12, .inl (fun j => nI ((rf 5) j)))), ((ra 6), .inr (6, [.ref (re 6), .int (nI (ln 6))])), ((re 6), .inl (γ.2 0, 12, .inl (fun j => nI ((rf 6) j)))), ((ra 7), .inr (6, [.ref (re 7), .int (nI (ln 7))])), ((re 7), .inl (γ.2 0, 12, .inl (fun j => nI ((rf 7) j))))] (fun z => some (.int (nI (n + 1)))) (fun z => [(ns, .inr (10, [.ref tp, .ref rd, .ref gr, .ref rw, .ref tr, .ref oo, .ref pa, .ref iq, .ref sr, .ref sgn, .ref pp, .ref mu, .int dsd])), (rw, .inr (6, [.ref rwe, .int (nI (n + 1))])), (rwe, .inl (γ.2 0, 12, .inl (fun j => nI ((va_up f n k) j)))), (gr, .inr (0, [.ref mk, .ref ag, .int (nI cd), .int (nI pt), .int (nI od), .int (nI ex)])), (mk, .inl (γ.2 1, 576, .inl (fun j => nI (mf j)))), (ag, .inl (γ.2 1, 24, .inl (fun j => nI (af j)))), (pa, .inr (4, [.ref rq, .int (nI (if nx + 1 < 8 then nx + 1 else 0)), .int (nI (if 8 < pl + 1 then 8 else pl + 1))])), (rq, .inl (γ.2 5, 8, .inr (.inr (.inr (.inr (fun i => some (ra i))))))), ((ra 0), .inr (6, [.ref (re 0), .int (nI ((va_up ln nx n) 0))])), ((re 0), .inl (γ.2 0, 12, .inl (fun j => nI (((va_up rf nx z) 0) j)))), ((ra 1), .inr (6, [.ref (re 1), .int (nI ((va_up ln nx n) 1))])), ((re 1), .inl (γ.2 0, 12, .inl (fun j => nI (((va_up rf nx z) 1) j)))), ((ra 2), .inr (6, [.ref (re 2), .int (nI ((va_up ln nx n) 2))])), ((re 2), .inl (γ.2 0, 12, .inl (fun j => nI (((va_up rf nx z) 2) j)))), ((ra 3), .inr (6, [.ref (re 3), .int (nI ((va_up ln nx n) 3))])), ((re 3), .inl (γ.2 0, 12, .inl (fun j => nI (((va_up rf nx z) 3) j)))), ((ra 4), .inr (6, [.ref (re 4), .int (nI ((va_up ln nx n) 4))])), ((re 4), .inl (γ.2 0, 12, .inl (fun j => nI (((va_up rf nx z) 4) j)))), ((ra 5), .inr (6, [.ref (re 5), .int (nI ((va_up ln nx n) 5))])), ((re 5), .inl (γ.2 0, 12, .inl (fun j => nI (((va_up rf nx z) 5) j)))), ((ra 6), .inr (6, [.ref (re 6), .int (nI ((va_up ln nx n) 6))])), ((re 6), .inl (γ.2 0, 12, .inl (fun j => nI (((va_up rf nx z) 6) j)))), ((ra 7), .inr (6, [.ref (re 7), .int (nI ((va_up ln nx n) 7))])), ((re 7), .inl (γ.2 0, 12, .inl (fun j => nI (((va_up rf nx z) 7) j))))]) (fun z => ∀ j, j < n → z j = f j) := by
  refine jM.of [some (.ref ns), some (.int (nI k))] rfl (Nat.le_of_ble_eq_true rfl) (by decide) ?_
  intro x g hE hin
  refine J.aload_n g dX10_come_0 rfl rfl ?_
  refine J.get g jX10 2 (by decide) lf_X10_26 0 rfl rfl dX10_come_1 ?_
  refine J.iload_n g dX10_come_4 rfl rfl ?_
  refine J.callV0 g (c_X0_has l γ _ _ _ _ _ _ _ _ _ _ ho) jy_X0_has lm_X10_156 (q0 := 3) rfl jX0.1 ⟨⟨Nat.le_of_ble_eq_true rfl, Nat.le_of_ble_eq_true rfl⟩, Nat.le_of_ble_eq_true rfl, Nat.le_of_ble_eq_true rfl⟩ (Nat.le_of_ble_eq_true rfl) rfl [3, 4, 5] rfl rfl dX10_come_5 ?_
  intro _ _
  dsimp only [jpush]
  refine J.if_eqB g dX10_come_8 (tgt := 21) (by decide) (fun c_8 => absurd c_8 (by rw [jhas_n od (by omega), decide_eq_true hk] at c_8; cases c_8)) (fun c_8 => ?_)
  refine J.aload_n g dX10_come_11 rfl rfl ?_
  refine J.get g jX10 3 (by decide) lf_X10_33 0 rfl rfl dX10_come_12 ?_
  refine J.callV0 g (c_X6_isFull l γ _ _ _ _ hn) jy_X6_isFull lm_X10_256 (q0 := 1) rfl jX6.1 ⟨⟨Nat.le_of_ble_eq_true rfl, Nat.le_of_ble_eq_true rfl⟩, Nat.le_of_ble_eq_true rfl, Nat.le_of_ble_eq_true rfl⟩ (Nat.le_of_ble_eq_true rfl) rfl [1, 2] rfl rfl dX10_come_15 ?_
  intro _ _
  dsimp only [jpush]
  refine J.if_eqB g dX10_come_18 (tgt := 23) (by decide) (fun c_18 => ?_) (fun c_18 => absurd c_18 (by simp at c_18; omega))
  refine J.aload_n g dX10_come_23 rfl rfl ?_
  refine J.get g jX10 6 (by decide) lf_X10_46 0 rfl rfl dX10_come_24 ?_
  refine J.aload_n g dX10_come_27 rfl rfl ?_
  refine J.get g jX10 3 (by decide) lf_X10_33 0 rfl rfl dX10_come_28 ?_
  refine J.callV g (c_X4_keep l γ _ _ _ _ _ _ _ _ _ _ _ _ hx hp hn) jy_X4_keep lm_X10_259 (q0 := 6) rfl jX4.1 ⟨⟨Nat.le_of_ble_eq_true rfl, Nat.le_of_ble_eq_true rfl⟩, Nat.le_of_ble_eq_true rfl, Nat.le_of_ble_eq_true rfl⟩ (Nat.le_of_ble_eq_true rfl) rfl [6, 7, 8, 9, 10, 11, 12, 13, 14, 15, 16, 17, 18, 19, 20, 21, 22, 23, 1, 2] rfl (fun _ => rfl) rfl dX10_come_31 ?_
  intro u_31 h_31
  dsimp only [jput, List.set_cons_zero, List.set_cons_succ, Option.toList, List.append, List.cons_append, List.nil_append, List.append_nil]
  refine J.aload_n g dX10_come_34 rfl rfl ?_
  refine J.get g jX10 3 (by decide) lf_X10_33 0 rfl rfl dX10_come_35 ?_
  refine J.iload_n g dX10_come_38 rfl rfl ?_
  refine J.callV g (c_X6_append l γ _ _ _ _ _ h12) jy_X6_append lm_X10_262 (q0 := 1) rfl jX6.1 ⟨⟨Nat.le_of_ble_eq_true rfl, Nat.le_of_ble_eq_true rfl⟩, Nat.le_of_ble_eq_true rfl, Nat.le_of_ble_eq_true rfl⟩ (Nat.le_of_ble_eq_true rfl) rfl [1, 2] rfl (fun _ => rfl) rfl dX10_come_39 ?_
  intro _ _
  dsimp only [jput, List.set_cons_zero, List.set_cons_succ, Option.toList, List.append, List.cons_append, List.nil_append, List.append_nil]
  refine J.pop g dX10_come_42 rfl ?_
  refine J.aload_n g dX10_come_43 rfl rfl ?_
  refine J.get g jX10 3 (by decide) lf_X10_33 0 rfl rfl dX10_come_44 ?_
  refine J.callV0 g (c_X6_length l γ _ _ _ _ ) jy_X6_length lm_X10_144 (q0 := 1) rfl jX6.1 ⟨⟨Nat.le_of_ble_eq_true rfl, Nat.le_of_ble_eq_true rfl⟩, Nat.le_of_ble_eq_true rfl, Nat.le_of_ble_eq_true rfl⟩ (Nat.le_of_ble_eq_true rfl) rfl [1, 2] rfl rfl dX10_come_47 ?_
  intro _ _
  dsimp only [jpush]
  exact J.iret g hE u_31 rfl h_31 rfl ⟨Nat.le_of_ble_eq_true rfl, Nat.le_of_ble_eq_true rfl⟩ dX10_come_50
set_option maxHeartbeats 4000000 in
set_option maxRecDepth 100000 in
theorem c_X10_come_no (l : Launch) (γ : jγ) (ns tp rd gr rw tr oo pa iq sr sgn pp mu : Nat) (dsd : Int32) (rwe n : Nat) (f : Nat → Nat) (mk ag cd pt od ex : Nat) (mf af : Nat → Nat) (k : Int32) (hn : n ≤ 12) (ho : od ≤ 24) (hk : jhas k od = false ∨ n = 12) : jM (S := Unit) l γ yX10_come cX10_come 2 (some .int) ({ frames := 2, cells := 0, slots := 0, locals := 46 } : Room) [.ref ns, .int k] [(ns, .inr (10, [.ref tp, .ref rd, .ref gr, .ref rw, .ref tr, .ref oo, .ref pa, .ref iq, .ref sr, .ref sgn, .ref pp, .ref mu, .int dsd])), (rw, .inr (6, [.ref rwe, .int (nI n)])), (rwe, .inl (γ.2 0, 12, .inl (fun j => nI (f j)))), (gr, .inr (0, [.ref mk, .ref ag, .int (nI cd), .int (nI pt), .int (nI od), .int (nI ex)])), (mk, .inl (γ.2 1, 576, .inl (fun j => nI (mf j)))), (ag, .inl (γ.2 1, 24, .inl (fun j => nI (af j))))] (fun w0 => some (.int (-1))) (fun w0 => [(ns, .inr (10, [.ref tp, .ref rd, .ref gr, .ref rw, .ref tr, .ref oo, .ref pa, .ref iq, .ref sr, .ref sgn, .ref pp, .ref mu, .int dsd])), (rw, .inr (6, [.ref rwe, .int (nI n)])), (rwe, .inl (γ.2 0, 12, .inl (fun j => nI (f j)))), (gr, .inr (0, [.ref mk, .ref ag, .int (nI cd), .int (nI pt), .int (nI od), .int (nI ex)])), (mk, .inl (γ.2 1, 576, .inl (fun j => nI (mf j)))), (ag, .inl (γ.2 1, 24, .inl (fun j => nI (af j))))]) (fun w0 => True) := by
  refine jM.of [some (.ref ns), some (.int k)] rfl (Nat.le_of_ble_eq_true rfl) (by decide) ?_
  intro x g hE hin
  refine J.aload_n g dX10_come_0 rfl rfl ?_
  refine J.get g jX10 2 (by decide) lf_X10_26 0 rfl rfl dX10_come_1 ?_
  refine J.iload_n g dX10_come_4 rfl rfl ?_
  refine J.callV0 g (c_X0_has l γ _ _ _ _ _ _ _ _ _ _ ho) jy_X0_has lm_X10_156 (q0 := 3) rfl jX0.1 ⟨⟨Nat.le_of_ble_eq_true rfl, Nat.le_of_ble_eq_true rfl⟩, Nat.le_of_ble_eq_true rfl, Nat.le_of_ble_eq_true rfl⟩ (Nat.le_of_ble_eq_true rfl) rfl [3, 4, 5] rfl rfl dX10_come_5 ?_
  intro _ _
  dsimp only [jpush]
  refine J.if_eqB g dX10_come_8 (tgt := 21) (by decide) (fun c_8 => ?_) (fun c_8 => ?_)
  · refine J.iconst (v := -1) g dX10_come_21 (by decide) ?_
    exact J.iret g hE () rfl trivial rfl ⟨Nat.le_of_ble_eq_true rfl, Nat.le_of_ble_eq_true rfl⟩ dX10_come_22
  · refine J.aload_n g dX10_come_11 rfl rfl ?_
    refine J.get g jX10 3 (by decide) lf_X10_33 0 rfl rfl dX10_come_12 ?_
    refine J.callV0 g (c_X6_isFull l γ _ _ _ _ hn) jy_X6_isFull lm_X10_256 (q0 := 1) rfl jX6.1 ⟨⟨Nat.le_of_ble_eq_true rfl, Nat.le_of_ble_eq_true rfl⟩, Nat.le_of_ble_eq_true rfl, Nat.le_of_ble_eq_true rfl⟩ (Nat.le_of_ble_eq_true rfl) rfl [1, 2] rfl rfl dX10_come_15 ?_
    intro _ _
    dsimp only [jpush]
    refine J.if_eqB g dX10_come_18 (tgt := 23) (by decide) (fun c_18 => absurd c_18 (by rcases hk with hk | hk <;> simp_all)) (fun c_18 => ?_)
    refine J.iconst (v := -1) g dX10_come_21 (by decide) ?_
    exact J.iret g hE () rfl trivial rfl ⟨Nat.le_of_ble_eq_true rfl, Nat.le_of_ble_eq_true rfl⟩ dX10_come_22
set_option maxHeartbeats 4000000 in
set_option maxRecDepth 100000 in
theorem c_X10_undo_yes (l : Launch) (γ : jγ) (ns tp rd gr rw tr oo pa iq sr sgn pp mu : Nat) (dsd : Int32) (rwe n : Nat) (f : Nat → Nat) (rq nx pl : Nat) (ra re ln : Nat → Nat) (rf : Nat → Nat → Nat) (hx : nx < 8) (hp : 0 < pl) (hp2 : pl ≤ 8) (hl : ∀ i, i < 8 → ln i ≤ 12) : jM (S := Nat → Nat) l γ yX10_undo cX10_undo 1 (some .int) ({ frames := 2, cells := 0, slots := 0, locals := 45 } : Room) [.ref ns] [(ns, .inr (10, [.ref tp, .ref rd, .ref gr, .ref rw, .ref tr, .ref oo, .ref pa, .ref iq, .ref sr, .ref sgn, .ref pp, .ref mu, .int dsd])), (rw, .inr (6, [.ref rwe, .int (nI n)])), (rwe, .inl (γ.2 0, 12, .inl (fun j => nI (f j)))), (pa, .inr (4, [.ref rq, .int (nI nx), .int (nI pl)])), (rq, .inl (γ.2 5, 8, .inr (.inr (.inr (.inr (fun i => some (ra i))))))), ((ra 0), .inr (6, [.ref (re 0), .int (nI (ln 0))])), ((re 0), .inl (γ.2 0, 12, .inl (fun j => nI ((rf 0) j)))), ((ra 1), .inr (6, [.ref (re 1), .int (nI (ln 1))])), ((re 1), .inl (γ.2 0, 12, .inl (fun j => nI ((rf 1) j)))), ((ra 2), .inr (6, [.ref (re 2), .int (nI (ln 2))])), ((re 2), .inl (γ.2 0, 12, .inl (fun j => nI ((rf 2) j)))), ((ra 3), .inr (6, [.ref (re 3), .int (nI (ln 3))])), ((re 3), .inl (γ.2 0, 12, .inl (fun j => nI ((rf 3) j)))), ((ra 4), .inr (6, [.ref (re 4), .int (nI (ln 4))])), ((re 4), .inl (γ.2 0, 12, .inl (fun j => nI ((rf 4) j)))), ((ra 5), .inr (6, [.ref (re 5), .int (nI (ln 5))])), ((re 5), .inl (γ.2 0, 12, .inl (fun j => nI ((rf 5) j)))), ((ra 6), .inr (6, [.ref (re 6), .int (nI (ln 6))])), ((re 6), .inl (γ.2 0, 12, .inl (fun j => nI ((rf 6) j)))), ((ra 7), .inr (6, [.ref (re 7), .int (nI (ln 7))])), ((re 7), .inl (γ.2 0, 12, .inl (fun j => nI ((rf 7) j))))] (fun z => some (.int (nI (pl - 1)))) (fun z => [(ns, .inr (10, [.ref tp, .ref rd, .ref gr, .ref rw, .ref tr, .ref oo, .ref pa, .ref iq, .ref sr, .ref sgn, .ref pp, .ref mu, .int dsd])), (rw, .inr (6, [.ref rwe, .int (nI (ln (if 0 < nx then nx - 1 else 7)))])), (rwe, .inl (γ.2 0, 12, .inl (fun j => nI (z j)))), (pa, .inr (4, [.ref rq, .int (nI (if 0 < nx then nx - 1 else 7)), .int (nI (pl - 1))])), (rq, .inl (γ.2 5, 8, .inr (.inr (.inr (.inr (fun i => some (ra i))))))), ((ra 0), .inr (6, [.ref (re 0), .int (nI (ln 0))])), ((re 0), .inl (γ.2 0, 12, .inl (fun j => nI ((rf 0) j)))), ((ra 1), .inr (6, [.ref (re 1), .int (nI (ln 1))])), ((re 1), .inl (γ.2 0, 12, .inl (fun j => nI ((rf 1) j)))), ((ra 2), .inr (6, [.ref (re 2), .int (nI (ln 2))])), ((re 2), .inl (γ.2 0, 12, .inl (fun j => nI ((rf 2) j)))), ((ra 3), .inr (6, [.ref (re 3), .int (nI (ln 3))])), ((re 3), .inl (γ.2 0, 12, .inl (fun j => nI ((rf 3) j)))), ((ra 4), .inr (6, [.ref (re 4), .int (nI (ln 4))])), ((re 4), .inl (γ.2 0, 12, .inl (fun j => nI ((rf 4) j)))), ((ra 5), .inr (6, [.ref (re 5), .int (nI (ln 5))])), ((re 5), .inl (γ.2 0, 12, .inl (fun j => nI ((rf 5) j)))), ((ra 6), .inr (6, [.ref (re 6), .int (nI (ln 6))])), ((re 6), .inl (γ.2 0, 12, .inl (fun j => nI ((rf 6) j)))), ((ra 7), .inr (6, [.ref (re 7), .int (nI (ln 7))])), ((re 7), .inl (γ.2 0, 12, .inl (fun j => nI ((rf 7) j))))]) (fun z => ∀ j, j < ln (if 0 < nx then nx - 1 else 7) → z j = rf (if 0 < nx then nx - 1 else 7) j) := by
  refine jM.of [some (.ref ns)] rfl (Nat.le_of_ble_eq_true rfl) (by decide) ?_
  intro x g hE hin
  refine J.aload_n g dX10_undo_0 rfl rfl ?_
  refine J.get g jX10 6 (by decide) lf_X10_46 0 rfl rfl dX10_undo_1 ?_
  refine J.callV0 g (c_X4_length l γ _ _ _ _ ) jy_X4_length lm_X10_148 (q0 := 3) rfl jX4.1 ⟨⟨Nat.le_of_ble_eq_true rfl, Nat.le_of_ble_eq_true rfl⟩, Nat.le_of_ble_eq_true rfl, Nat.le_of_ble_eq_true rfl⟩ (Nat.le_of_ble_eq_true rfl) rfl [3] rfl rfl dX10_undo_4 ?_
  intro _ _
  dsimp only [jpush]
  refine J.if_neN g dX10_undo_7 (tgt := 12) (by decide) (by omega) (fun c_7 => ?_) (fun c_7 => absurd c_7 (by omega))
  refine J.aload_n g dX10_undo_12 rfl rfl ?_
  refine J.get g jX10 6 (by decide) lf_X10_46 0 rfl rfl dX10_undo_13 ?_
  refine J.aload_n g dX10_undo_16 rfl rfl ?_
  refine J.get g jX10 3 (by decide) lf_X10_33 0 rfl rfl dX10_undo_17 ?_
  refine J.callV g (c_X4_takeBack l γ _ _ _ _ _ _ _ _ _ _ _ _ hx hp hp2 hl) jy_X4_takeBack lm_X10_274 (q0 := 3) rfl jX4.1 ⟨⟨Nat.le_of_ble_eq_true rfl, Nat.le_of_ble_eq_true rfl⟩, Nat.le_of_ble_eq_true rfl, Nat.le_of_ble_eq_true rfl⟩ (Nat.le_of_ble_eq_true rfl) rfl [3, 4, 5, 6, 7, 8, 9, 10, 11, 12, 13, 14, 15, 16, 17, 18, 19, 20, 1, 2] rfl (fun _ => rfl) rfl dX10_undo_20 ?_
  intro u_20 h_20
  dsimp only [jput, List.set_cons_zero, List.set_cons_succ, Option.toList, List.append, List.cons_append, List.nil_append, List.append_nil]
  refine J.aload_n g dX10_undo_23 rfl rfl ?_
  refine J.get g jX10 6 (by decide) lf_X10_46 0 rfl rfl dX10_undo_24 ?_
  refine J.callV0 g (c_X4_length l γ _ _ _ _ ) jy_X4_length lm_X10_148 (q0 := 3) rfl jX4.1 ⟨⟨Nat.le_of_ble_eq_true rfl, Nat.le_of_ble_eq_true rfl⟩, Nat.le_of_ble_eq_true rfl, Nat.le_of_ble_eq_true rfl⟩ (Nat.le_of_ble_eq_true rfl) rfl [3] rfl rfl dX10_undo_27 ?_
  intro _ _
  dsimp only [jpush]
  exact J.iret g hE u_20 rfl h_20 rfl ⟨Nat.le_of_ble_eq_true rfl, Nat.le_of_ble_eq_true rfl⟩ dX10_undo_30
set_option maxHeartbeats 4000000 in
set_option maxRecDepth 100000 in
theorem c_X10_times_yes (l : Launch) (γ : jγ) (ns tp rd gr rw tr oo pa iq sr sgn pp mu : Nat) (dsd : Int32) (rwe n : Nat) (f : Nat → Nat) (mk ag cd pt od ex : Nat) (mf af : Nat → Nat) (rq nx pl : Nat) (ra re ln : Nat → Nat) (rf : Nat → Nat → Nat) (k : Nat) (hx : nx < 8) (hp : pl ≤ 8) (hn : n ≤ 12) (he : ex < 2 ^ 30) (hT : jtab od mf af) (hf : ∀ j, j < n → f j < 24) (hk : k ≤ 24) (hc : jcm ex n (nI k) = true) : jM (S := (Nat → Nat) × (Nat → Nat)) l γ yX10_times cX10_times 2 (some .int) ({ frames := 4, cells := 0, slots := 0, locals := 90 } : Room) [.ref ns, .int (nI k)] [(ns, .inr (10, [.ref tp, .ref rd, .ref gr, .ref rw, .ref tr, .ref oo, .ref pa, .ref iq, .ref sr, .ref sgn, .ref pp, .ref mu, .int dsd])), (rw, .inr (6, [.ref rwe, .int (nI n)])), (rwe, .inl (γ.2 0, 12, .inl (fun j => nI (f j)))), (gr, .inr (0, [.ref mk, .ref ag, .int (nI cd), .int (nI pt), .int (nI od), .int (nI ex)])), (mk, .inl (γ.2 1, 576, .inl (fun j => nI (mf j)))), (ag, .inl (γ.2 1, 24, .inl (fun j => nI (af j)))), (pa, .inr (4, [.ref rq, .int (nI nx), .int (nI pl)])), (rq, .inl (γ.2 5, 8, .inr (.inr (.inr (.inr (fun i => some (ra i))))))), ((ra 0), .inr (6, [.ref (re 0), .int (nI (ln 0))])), ((re 0), .inl (γ.2 0, 12, .inl (fun j => nI ((rf 0) j)))), ((ra 1), .inr (6, [.ref (re 1), .int (nI (ln 1))])), ((re 1), .inl (γ.2 0, 12, .inl (fun j => nI ((rf 1) j)))), ((ra 2), .inr (6, [.ref (re 2), .int (nI (ln 2))])), ((re 2), .inl (γ.2 0, 12, .inl (fun j => nI ((rf 2) j)))), ((ra 3), .inr (6, [.ref (re 3), .int (nI (ln 3))])), ((re 3), .inl (γ.2 0, 12, .inl (fun j => nI ((rf 3) j)))), ((ra 4), .inr (6, [.ref (re 4), .int (nI (ln 4))])), ((re 4), .inl (γ.2 0, 12, .inl (fun j => nI ((rf 4) j)))), ((ra 5), .inr (6, [.ref (re 5), .int (nI (ln 5))])), ((re 5), .inl (γ.2 0, 12, .inl (fun j => nI ((rf 5) j)))), ((ra 6), .inr (6, [.ref (re 6), .int (nI (ln 6))])), ((re 6), .inl (γ.2 0, 12, .inl (fun j => nI ((rf 6) j)))), ((ra 7), .inr (6, [.ref (re 7), .int (nI (ln 7))])), ((re 7), .inl (γ.2 0, 12, .inl (fun j => nI ((rf 7) j))))] (fun z => some (.int (jsa od mf z.2 n))) (fun z => [(ns, .inr (10, [.ref tp, .ref rd, .ref gr, .ref rw, .ref tr, .ref oo, .ref pa, .ref iq, .ref sr, .ref sgn, .ref pp, .ref mu, .int dsd])), (rw, .inr (6, [.ref rwe, .int (nI n)])), (rwe, .inl (γ.2 0, 12, .inl (fun j => nI (z.2 j)))), (gr, .inr (0, [.ref mk, .ref ag, .int (nI cd), .int (nI pt), .int (nI od), .int (nI ex)])), (mk, .inl (γ.2 1, 576, .inl (fun j => nI (mf j)))), (ag, .inl (γ.2 1, 24, .inl (fun j => nI (af j)))), (pa, .inr (4, [.ref rq, .int (nI (if nx + 1 < 8 then nx + 1 else 0)), .int (nI (if 8 < pl + 1 then 8 else pl + 1))])), (rq, .inl (γ.2 5, 8, .inr (.inr (.inr (.inr (fun i => some (ra i))))))), ((ra 0), .inr (6, [.ref (re 0), .int (nI ((va_up ln nx n) 0))])), ((re 0), .inl (γ.2 0, 12, .inl (fun j => nI (((va_up rf nx z.1) 0) j)))), ((ra 1), .inr (6, [.ref (re 1), .int (nI ((va_up ln nx n) 1))])), ((re 1), .inl (γ.2 0, 12, .inl (fun j => nI (((va_up rf nx z.1) 1) j)))), ((ra 2), .inr (6, [.ref (re 2), .int (nI ((va_up ln nx n) 2))])), ((re 2), .inl (γ.2 0, 12, .inl (fun j => nI (((va_up rf nx z.1) 2) j)))), ((ra 3), .inr (6, [.ref (re 3), .int (nI ((va_up ln nx n) 3))])), ((re 3), .inl (γ.2 0, 12, .inl (fun j => nI (((va_up rf nx z.1) 3) j)))), ((ra 4), .inr (6, [.ref (re 4), .int (nI ((va_up ln nx n) 4))])), ((re 4), .inl (γ.2 0, 12, .inl (fun j => nI (((va_up rf nx z.1) 4) j)))), ((ra 5), .inr (6, [.ref (re 5), .int (nI ((va_up ln nx n) 5))])), ((re 5), .inl (γ.2 0, 12, .inl (fun j => nI (((va_up rf nx z.1) 5) j)))), ((ra 6), .inr (6, [.ref (re 6), .int (nI ((va_up ln nx n) 6))])), ((re 6), .inl (γ.2 0, 12, .inl (fun j => nI (((va_up rf nx z.1) 6) j)))), ((ra 7), .inr (6, [.ref (re 7), .int (nI ((va_up ln nx n) 7))])), ((re 7), .inl (γ.2 0, 12, .inl (fun j => nI (((va_up rf nx z.1) 7) j))))]) (fun z => (∀ j, j < n → z.1 j = f j) ∧ ∀ j, j < n → z.2 j = jmul od mf (f j) k) := by
  refine jM.of [some (.ref ns), some (.int (nI k))] rfl (Nat.le_of_ble_eq_true rfl) (by decide) ?_
  intro x g hE hin
  refine J.aload_n g dX10_times_0 rfl rfl ?_
  refine J.iload_n g dX10_times_1 rfl rfl ?_
  refine J.callV0 g (c_X10_canMultiply l γ _ _ _ _ _ _ _ _ _ _ _ _ _ _ _ _ _ _ _ _ _ _ _ _ _ _ hn he) jy_X10_canMultiply lm_X10_268 (q0 := 0) rfl jX10.1 ⟨⟨Nat.le_of_ble_eq_true rfl, Nat.le_of_ble_eq_true rfl⟩, Nat.le_of_ble_eq_true rfl, Nat.le_of_ble_eq_true rfl⟩ (Nat.le_of_ble_eq_true rfl) rfl [0, 1, 2, 3, 4, 5] rfl rfl dX10_times_2 ?_
  intro _ _
  dsimp only [jpush]
  refine J.if_neB g dX10_times_5 (tgt := 10) (by decide) (fun c_5 => ?_) (fun c_5 => absurd c_5 (by simp [hc] at c_5))
  refine J.aload_n g dX10_times_10 rfl rfl ?_
  refine J.get g jX10 6 (by decide) lf_X10_46 0 rfl rfl dX10_times_11 ?_
  refine J.aload_n g dX10_times_14 rfl rfl ?_
  refine J.get g jX10 3 (by decide) lf_X10_33 0 rfl rfl dX10_times_15 ?_
  refine J.callV g (c_X4_keep l γ _ _ _ _ _ _ _ _ _ _ _ _ hx hp hn) jy_X4_keep lm_X10_259 (q0 := 6) rfl jX4.1 ⟨⟨Nat.le_of_ble_eq_true rfl, Nat.le_of_ble_eq_true rfl⟩, Nat.le_of_ble_eq_true rfl, Nat.le_of_ble_eq_true rfl⟩ (Nat.le_of_ble_eq_true rfl) rfl [6, 7, 8, 9, 10, 11, 12, 13, 14, 15, 16, 17, 18, 19, 20, 21, 22, 23, 1, 2] rfl (fun _ => rfl) rfl dX10_times_18 ?_
  intro u_18 h_18
  dsimp only [jput, List.set_cons_zero, List.set_cons_succ, Option.toList, List.append, List.cons_append, List.nil_append, List.append_nil]
  refine J.aload_n g dX10_times_21 rfl rfl ?_
  refine J.get g jX10 3 (by decide) lf_X10_33 0 rfl rfl dX10_times_22 ?_
  refine J.aload_n g dX10_times_25 rfl rfl ?_
  refine J.get g jX10 2 (by decide) lf_X10_26 0 rfl rfl dX10_times_26 ?_
  refine J.iload_n g dX10_times_29 rfl rfl ?_
  refine J.callV g (c_X6_multiply l γ _ _ _ _ _ _ _ _ _ _ _ _ _ _ hn hT hf (by omega)) jy_X6_multiply lm_X10_239 (q0 := 1) rfl jX6.1 ⟨⟨Nat.le_of_ble_eq_true rfl, Nat.le_of_ble_eq_true rfl⟩, Nat.le_of_ble_eq_true rfl, Nat.le_of_ble_eq_true rfl⟩ (Nat.le_of_ble_eq_true rfl) rfl [1, 2, 3, 4, 5] rfl (fun _ => rfl) rfl dX10_times_30 ?_
  intro u_30 h_30
  dsimp only [jput, List.set_cons_zero, List.set_cons_succ, Option.toList, List.append, List.cons_append, List.nil_append, List.append_nil]
  refine J.aload_n g dX10_times_33 rfl rfl ?_
  refine J.callV0 g (c_X10_sumOfAll l γ _ _ _ _ _ _ _ _ _ _ _ _ _ _ _ _ _ _ _ _ _ _ _ _ _ hn hT (fun j hj => by rw [h_30 j hj]; exact jmul_24 hT _ _)) jy_X10_sumOfAll lm_X10_145 (q0 := 0) rfl jX10.1 ⟨⟨Nat.le_of_ble_eq_true rfl, Nat.le_of_ble_eq_true rfl⟩, Nat.le_of_ble_eq_true rfl, Nat.le_of_ble_eq_true rfl⟩ (Nat.le_of_ble_eq_true rfl) rfl [0, 1, 2, 3, 4, 5] rfl rfl dX10_times_34 ?_
  intro _ _
  dsimp only [jpush]
  exact J.iret g hE (u_18, u_30) rfl ⟨h_18, h_30⟩ rfl ⟨Nat.le_of_ble_eq_true rfl, Nat.le_of_ble_eq_true rfl⟩ dX10_times_37
set_option maxHeartbeats 4000000 in
set_option maxRecDepth 100000 in
theorem c_X10_times_no (l : Launch) (γ : jγ) (ns tp rd gr rw tr oo pa iq sr sgn pp mu : Nat) (dsd : Int32) (rwe n : Nat) (f : Nat → Nat) (mk ag cd pt od ex : Nat) (mf af : Nat → Nat) (k : Int32) (hn : n ≤ 12) (he : ex < 2 ^ 30) (hc : jcm ex n k = false) : jM (S := Unit) l γ yX10_times cX10_times 2 (some .int) ({ frames := 4, cells := 0, slots := 0, locals := 90 } : Room) [.ref ns, .int k] [(ns, .inr (10, [.ref tp, .ref rd, .ref gr, .ref rw, .ref tr, .ref oo, .ref pa, .ref iq, .ref sr, .ref sgn, .ref pp, .ref mu, .int dsd])), (rw, .inr (6, [.ref rwe, .int (nI n)])), (rwe, .inl (γ.2 0, 12, .inl (fun j => nI (f j)))), (gr, .inr (0, [.ref mk, .ref ag, .int (nI cd), .int (nI pt), .int (nI od), .int (nI ex)])), (mk, .inl (γ.2 1, 576, .inl (fun j => nI (mf j)))), (ag, .inl (γ.2 1, 24, .inl (fun j => nI (af j))))] (fun w0 => some (.int (-1))) (fun w0 => [(ns, .inr (10, [.ref tp, .ref rd, .ref gr, .ref rw, .ref tr, .ref oo, .ref pa, .ref iq, .ref sr, .ref sgn, .ref pp, .ref mu, .int dsd])), (rw, .inr (6, [.ref rwe, .int (nI n)])), (rwe, .inl (γ.2 0, 12, .inl (fun j => nI (f j)))), (gr, .inr (0, [.ref mk, .ref ag, .int (nI cd), .int (nI pt), .int (nI od), .int (nI ex)])), (mk, .inl (γ.2 1, 576, .inl (fun j => nI (mf j)))), (ag, .inl (γ.2 1, 24, .inl (fun j => nI (af j))))]) (fun w0 => True) := by
  refine jM.of [some (.ref ns), some (.int k)] rfl (Nat.le_of_ble_eq_true rfl) (by decide) ?_
  intro x g hE hin
  refine J.aload_n g dX10_times_0 rfl rfl ?_
  refine J.iload_n g dX10_times_1 rfl rfl ?_
  refine J.callV0 g (c_X10_canMultiply l γ _ _ _ _ _ _ _ _ _ _ _ _ _ _ _ _ _ _ _ _ _ _ _ _ _ _ hn he) jy_X10_canMultiply lm_X10_268 (q0 := 0) rfl jX10.1 ⟨⟨Nat.le_of_ble_eq_true rfl, Nat.le_of_ble_eq_true rfl⟩, Nat.le_of_ble_eq_true rfl, Nat.le_of_ble_eq_true rfl⟩ (Nat.le_of_ble_eq_true rfl) rfl [0, 1, 2, 3, 4, 5] rfl rfl dX10_times_2 ?_
  intro _ _
  dsimp only [jpush]
  refine J.if_neB g dX10_times_5 (tgt := 10) (by decide) (fun c_5 => absurd c_5 (by simp [hc] at c_5)) (fun c_5 => ?_)
  refine J.iconst (v := -1) g dX10_times_8 (by decide) ?_
  exact J.iret g hE () rfl trivial rfl ⟨Nat.le_of_ble_eq_true rfl, Nat.le_of_ble_eq_true rfl⟩ dX10_times_9
set_option maxHeartbeats 4000000 in
set_option maxRecDepth 100000 in
theorem c_X10_run_yes (l : Launch) (γ : jγ) (ns tp rd gr rw tr oo pa iq sr sgn pp mu : Nat) (dsd : Int32) (rwe n : Nat) (f : Nat → Nat) (mk ag cd pt od ex : Nat) (mf af : Nat → Nat) (gg : Nat) (w : Int32) (hn : n ≤ 12) (hT : jtab od mf af) (hf : ∀ j, j < n → f j < 24) (hg : gg < od) (hw : ¬ w < 0) (hw2 : w ≤ nI 1) : jM (S := Unit) l γ yX10_run cX10_run 5 (some .int) ({ frames := 3, cells := 0, slots := 0, locals := 68 } : Room) [.ref ns, .int (nI gg), .int w] [(ns, .inr (10, [.ref tp, .ref rd, .ref gr, .ref rw, .ref tr, .ref oo, .ref pa, .ref iq, .ref sr, .ref sgn, .ref pp, .ref mu, .int dsd])), (rw, .inr (6, [.ref rwe, .int (nI n)])), (rwe, .inl (γ.2 0, 12, .inl (fun j => nI (f j)))), (gr, .inr (0, [.ref mk, .ref ag, .int (nI cd), .int (nI pt), .int (nI od), .int (nI ex)])), (mk, .inl (γ.2 1, 576, .inl (fun j => nI (mf j)))), (ag, .inl (γ.2 1, 24, .inl (fun j => nI (af j))))] (fun w0 => some (.int (jrun od mf f n gg w n 0))) (fun w0 => [(ns, .inr (10, [.ref tp, .ref rd, .ref gr, .ref rw, .ref tr, .ref oo, .ref pa, .ref iq, .ref sr, .ref sgn, .ref pp, .ref mu, .int dsd])), (rw, .inr (6, [.ref rwe, .int (nI n)])), (rwe, .inl (γ.2 0, 12, .inl (fun j => nI (f j)))), (gr, .inr (0, [.ref mk, .ref ag, .int (nI cd), .int (nI pt), .int (nI od), .int (nI ex)])), (mk, .inl (γ.2 1, 576, .inl (fun j => nI (mf j)))), (ag, .inl (γ.2 1, 24, .inl (fun j => nI (af j))))]) (fun w0 => True) := by
  refine jM.of [some (.ref ns), some (.int (nI gg)), some (.int w), none, none] rfl (Nat.le_of_ble_eq_true rfl) (by decide) ?_
  intro x g hE hin
  refine J.aload_n g dX10_run_0 rfl rfl ?_
  refine J.get g jX10 2 (by decide) lf_X10_26 0 rfl rfl dX10_run_1 ?_
  refine J.iload_n g dX10_run_4 rfl rfl ?_
  refine J.callV0 g (c_X0_has l γ _ _ _ _ _ _ _ _ _ _ hT.1) jy_X0_has lm_X10_156 (q0 := 3) rfl jX0.1 ⟨⟨Nat.le_of_ble_eq_true rfl, Nat.le_of_ble_eq_true rfl⟩, Nat.le_of_ble_eq_true rfl, Nat.le_of_ble_eq_true rfl⟩ (Nat.le_of_ble_eq_true rfl) rfl [3, 4, 5] rfl rfl dX10_run_5 ?_
  intro _ _
  dsimp only [jpush]
  refine J.if_eqB g dX10_run_8 (tgt := 20) (by decide) (fun c_8 => absurd c_8 (by rw [jhas_n od (by have := hT.1; omega), decide_eq_true hg] at c_8; cases c_8)) (fun c_8 => ?_)
  refine J.iload_n g dX10_run_11 rfl rfl ?_
  refine J.if_lt g dX10_run_12 (tgt := 20) (by decide) (fun c_12 => absurd c_12 hw) (fun c_12 => ?_)
  refine J.iload_n g dX10_run_15 rfl rfl ?_
  refine J.iconstN g 1 dX10_run_16 ?_
  refine J.icmp_le g dX10_run_17 (tgt := 22) (by decide) (fun c_17 => ?_) (fun c_17 => absurd c_17 (fun z => z hw2))
  refine J.iconstN g 0 dX10_run_22 ?_
  refine J.istore_n g dX10_run_23 rfl rfl rfl ?_
  try dsimp only [List.set_cons_zero, List.set_cons_succ]
  have lp : ∀ (d : Nat) (b : Nat), n - b < d → (b ≤ n) → (jrun od mf f n gg w n 0 = jrun od mf f n gg w (n - b) b) → J γ l x [(ns, .inr (10, [.ref tp, .ref rd, .ref gr, .ref rw, .ref tr, .ref oo, .ref pa, .ref iq, .ref sr, .ref sgn, .ref pp, .ref mu, .int dsd])), (rw, .inr (6, [.ref rwe, .int (nI n)])), (rwe, .inl (γ.2 0, 12, .inl (fun j => nI (f j)))), (gr, .inr (0, [.ref mk, .ref ag, .int (nI cd), .int (nI pt), .int (nI od), .int (nI ex)])), (mk, .inl (γ.2 1, 576, .inl (fun j => nI (mf j)))), (ag, .inl (γ.2 1, 24, .inl (fun j => nI (af j))))] [some (.ref ns), some (.int (nI gg)), some (.int w), some (.int (nI b)), none] [] 0 0 24 := by
    intro d
    induction d with
    | zero => intro b hm; exact absurd hm (Nat.not_lt_zero _)
    | succ d ih_lp =>
      intro b hm hi hr
      refine J.iload_n g dX10_run_24 rfl rfl ?_
      refine J.aload_n g dX10_run_25 rfl rfl ?_
      refine J.get g jX10 3 (by decide) lf_X10_33 0 rfl rfl dX10_run_26 ?_
      refine J.callV0 g (c_X6_length l γ _ _ _ _ ) jy_X6_length lm_X10_144 (q0 := 1) rfl jX6.1 ⟨⟨Nat.le_of_ble_eq_true rfl, Nat.le_of_ble_eq_true rfl⟩, Nat.le_of_ble_eq_true rfl, Nat.le_of_ble_eq_true rfl⟩ (Nat.le_of_ble_eq_true rfl) rfl [1, 2] rfl rfl dX10_run_29 ?_
      intro _ _
      dsimp only [jpush]
      refine J.icmp_geN g dX10_run_32 (tgt := 73) (by decide) (by omega) (by omega) (fun c_32 => ?_) (fun c_32 => ?_)
      · refine J.iconst (v := -1) g dX10_run_73 (by decide) ?_
        exact J.iret g hE () (by rw [hr, jrun_e c_32]) trivial rfl ⟨Nat.le_of_ble_eq_true rfl, Nat.le_of_ble_eq_true rfl⟩ dX10_run_74
      · refine J.aload_n g dX10_run_35 rfl rfl ?_
        refine J.get g jX10 3 (by decide) lf_X10_33 0 rfl rfl dX10_run_36 ?_
        refine J.aload_n g dX10_run_39 rfl rfl ?_
        refine J.get g jX10 2 (by decide) lf_X10_26 0 rfl rfl dX10_run_40 ?_
        refine J.iload_n g dX10_run_43 rfl rfl ?_
        refine J.iload_n g dX10_run_44 rfl rfl ?_
        refine J.callV0 g (c_X6_shortestRun l γ _ _ _ _ _ _ _ _ _ _ _ _ _ _ _ hn hT hf hi (by have := hT.1; omega)) jy_X6_shortestRun lm_X10_201 (q0 := 1) rfl jX6.1 ⟨⟨Nat.le_of_ble_eq_true rfl, Nat.le_of_ble_eq_true rfl⟩, Nat.le_of_ble_eq_true rfl, Nat.le_of_ble_eq_true rfl⟩ (Nat.le_of_ble_eq_true rfl) rfl [1, 2, 3, 4, 5] rfl rfl dX10_run_45 ?_
        intro _ _
        dsimp only [jpush]
        refine J.istore g dX10_run_48 rfl rfl ?_
        try dsimp only [List.set_cons_zero, List.set_cons_succ]
        refine J.iload g dX10_run_50 rfl ?_
        refine J.iconst (v := -1) g dX10_run_52 (by decide) ?_
        refine J.icmp_eq g dX10_run_53 (tgt := 67) (by decide) (fun c_53 => ?_) (fun c_53 => ?_)
        · refine J.iincN g 1 dX10_run_67 rfl rfl ?_
          try dsimp only [List.set_cons_zero, List.set_cons_succ]
          refine J.goto g dX10_run_70 (tgt := 24) (by decide) ?_
          exact J.lvle (jle_s (jle_s (jle_s (jle_s (jle_n jle_0))))) (ih_lp (b + 1) (by omega) (by omega) (hr.trans (jrun_n (by omega) c_53)))
        · refine J.iload_n g dX10_run_56 rfl rfl ?_
          refine J.if_ne g dX10_run_57 (tgt := 64) (by decide) (fun c_57 => ?_) (fun c_57 => ?_)
          · refine J.iload g dX10_run_64 rfl ?_
            exact J.iret g hE () (by first | rw [hr, jrun_0 (by omega) c_53 c_57] | rw [hr, jrun_1 (by omega) c_53 c_57]) trivial rfl ⟨Nat.le_of_ble_eq_true rfl, Nat.le_of_ble_eq_true rfl⟩ dX10_run_66
          · refine J.iload_n g dX10_run_60 rfl rfl ?_
            refine J.goto g dX10_run_61 (tgt := 66) (by decide) ?_
            exact J.iret g hE () (by first | rw [hr, jrun_0 (by omega) c_53 c_57] | rw [hr, jrun_1 (by omega) c_53 c_57]) trivial rfl ⟨Nat.le_of_ble_eq_true rfl, Nat.le_of_ble_eq_true rfl⟩ dX10_run_66
  exact J.lvle (jle_s (jle_s (jle_s (jle_s (jle_n jle_0))))) (lp _ 0 (Nat.lt_succ_self _) (by omega) rfl)
set_option maxHeartbeats 4000000 in
set_option maxRecDepth 100000 in
theorem c_X10_run_no (l : Launch) (γ : jγ) (ns tp rd gr rw tr oo pa iq sr sgn pp mu : Nat) (dsd : Int32) (rwe n : Nat) (f : Nat → Nat) (mk ag cd pt od ex : Nat) (mf af : Nat → Nat) (k w : Int32) (ho : od ≤ 24) (hw : jhas k od = false ∨ w < 0 ∨ ¬ w ≤ nI 1) : jM (S := Unit) l γ yX10_run cX10_run 5 (some .int) ({ frames := 3, cells := 0, slots := 0, locals := 68 } : Room) [.ref ns, .int k, .int w] [(ns, .inr (10, [.ref tp, .ref rd, .ref gr, .ref rw, .ref tr, .ref oo, .ref pa, .ref iq, .ref sr, .ref sgn, .ref pp, .ref mu, .int dsd])), (rw, .inr (6, [.ref rwe, .int (nI n)])), (rwe, .inl (γ.2 0, 12, .inl (fun j => nI (f j)))), (gr, .inr (0, [.ref mk, .ref ag, .int (nI cd), .int (nI pt), .int (nI od), .int (nI ex)])), (mk, .inl (γ.2 1, 576, .inl (fun j => nI (mf j)))), (ag, .inl (γ.2 1, 24, .inl (fun j => nI (af j))))] (fun w0 => some (.int (-1))) (fun w0 => [(ns, .inr (10, [.ref tp, .ref rd, .ref gr, .ref rw, .ref tr, .ref oo, .ref pa, .ref iq, .ref sr, .ref sgn, .ref pp, .ref mu, .int dsd])), (rw, .inr (6, [.ref rwe, .int (nI n)])), (rwe, .inl (γ.2 0, 12, .inl (fun j => nI (f j)))), (gr, .inr (0, [.ref mk, .ref ag, .int (nI cd), .int (nI pt), .int (nI od), .int (nI ex)])), (mk, .inl (γ.2 1, 576, .inl (fun j => nI (mf j)))), (ag, .inl (γ.2 1, 24, .inl (fun j => nI (af j))))]) (fun w0 => True) := by
  refine jM.of [some (.ref ns), some (.int k), some (.int w), none, none] rfl (Nat.le_of_ble_eq_true rfl) (by decide) ?_
  intro x g hE hin
  refine J.aload_n g dX10_run_0 rfl rfl ?_
  refine J.get g jX10 2 (by decide) lf_X10_26 0 rfl rfl dX10_run_1 ?_
  refine J.iload_n g dX10_run_4 rfl rfl ?_
  refine J.callV0 g (c_X0_has l γ _ _ _ _ _ _ _ _ _ _ ho) jy_X0_has lm_X10_156 (q0 := 3) rfl jX0.1 ⟨⟨Nat.le_of_ble_eq_true rfl, Nat.le_of_ble_eq_true rfl⟩, Nat.le_of_ble_eq_true rfl, Nat.le_of_ble_eq_true rfl⟩ (Nat.le_of_ble_eq_true rfl) rfl [3, 4, 5] rfl rfl dX10_run_5 ?_
  intro _ _
  dsimp only [jpush]
  refine J.if_eqB g dX10_run_8 (tgt := 20) (by decide) (fun c_8 => ?_) (fun c_8 => ?_)
  · refine J.iconst (v := -1) g dX10_run_20 (by decide) ?_
    exact J.iret g hE () rfl trivial rfl ⟨Nat.le_of_ble_eq_true rfl, Nat.le_of_ble_eq_true rfl⟩ dX10_run_21
  · refine J.iload_n g dX10_run_11 rfl rfl ?_
    refine J.if_lt g dX10_run_12 (tgt := 20) (by decide) (fun c_12 => ?_) (fun c_12 => ?_)
    · refine J.iconst (v := -1) g dX10_run_20 (by decide) ?_
      exact J.iret g hE () rfl trivial rfl ⟨Nat.le_of_ble_eq_true rfl, Nat.le_of_ble_eq_true rfl⟩ dX10_run_21
    · refine J.iload_n g dX10_run_15 rfl rfl ?_
      refine J.iconstN g 1 dX10_run_16 ?_
      refine J.icmp_le g dX10_run_17 (tgt := 22) (by decide) (fun c_17 => absurd c_17 (fun z => hw.elim (fun h => by simp [h] at c_8) (fun h => h.elim c_12 (fun h => h z)))) (fun c_17 => ?_)
      refine J.iconst (v := -1) g dX10_run_20 (by decide) ?_
      exact J.iret g hE () rfl trivial rfl ⟨Nat.le_of_ble_eq_true rfl, Nat.le_of_ble_eq_true rfl⟩ dX10_run_21
