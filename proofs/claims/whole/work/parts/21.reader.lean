set_option maxHeartbeats 4000000 in
set_option maxRecDepth 100000 in
theorem c_X9_byteAt_n (l : Launch) (γ : jγ) (tp tb n : Nat) (f : Nat → Int32) (i : Nat) (hn : n ≤ 340) (hi : i < n) : jM (S := Unit) l γ yX9_byteAt cX9_byteAt 2 (some .int) ({ frames := 0, cells := 0, slots := 0, locals := 0 } : Room) [.ref tp, .int (nI i)] [(tp, .inr (9, [.ref tb, .int (nI n)])), (tb, .inl (γ.2 1, 340, .inl f))] (fun w0 => some (.int (nI (jbs f i)))) (fun w0 => [(tp, .inr (9, [.ref tb, .int (nI n)])), (tb, .inl (γ.2 1, 340, .inl f))]) (fun w0 => True) := by
  refine jM.of [some (.ref tp), some (.int (nI i))] rfl (Nat.le_of_ble_eq_true rfl) (by decide) ?_
  intro x g hE hin
  refine J.iload_n g dX9_byteAt_0 rfl rfl ?_
  refine J.if_ltN g dX9_byteAt_1 (tgt := 34) (by decide) (by omega) ?_
  refine J.iload_n g dX9_byteAt_4 rfl rfl ?_
  refine J.aload_n g dX9_byteAt_5 rfl rfl ?_
  refine J.get g jX9 1 (by decide) lf_X9_15 0 rfl rfl dX9_byteAt_6 ?_
  refine J.icmp_geN g dX9_byteAt_9 (tgt := 34) (by decide) (by omega) (by omega) (fun c_9 => absurd c_9 (by omega)) (fun c_9 => ?_)
  refine J.iload_n g dX9_byteAt_12 rfl rfl ?_
  refine J.aload_n g dX9_byteAt_13 rfl rfl ?_
  refine J.get g jX9 0 (by decide) lf_X9_9 0 rfl rfl dX9_byteAt_14 ?_
  refine J.alen (v := nI 340) g 1 1 rfl rfl rfl dX9_byteAt_17 ?_
  refine J.icmp_geN g dX9_byteAt_18 (tgt := 34) (by decide) (by omega) (by omega) (fun c_18 => absurd c_18 (by omega)) (fun c_18 => ?_)
  refine J.aload_n g dX9_byteAt_21 rfl rfl ?_
  refine J.get g jX9 0 (by decide) lf_X9_9 0 rfl rfl dX9_byteAt_22 ?_
  refine J.iload_n g dX9_byteAt_25 rfl rfl ?_
  refine J.baldK g 1 rfl (by omega) (by decide) dX9_byteAt_26 ?_
  refine J.sipush (v := nI 255) g dX9_byteAt_27 (by decide +kernel) ?_
  refine J.iand' g dX9_byteAt_30 (show f i &&& nI 255 = nI (jbs f i) by rw [show (nI 255 : Int32) = 255 from by decide +kernel]; exact jb8_eq _) ?_
  refine J.goto g dX9_byteAt_31 (tgt := 35) (by decide) ?_
  exact J.iret g hE () rfl trivial rfl ⟨Nat.le_of_ble_eq_true rfl, Nat.le_of_ble_eq_true rfl⟩ dX9_byteAt_35
set_option maxHeartbeats 4000000 in
set_option maxRecDepth 100000 in
theorem c_X5_isBlank (l : Launch) (γ : jγ) (b : Nat) (hb : b < 256) : jM (S := Unit) l γ yX5_isBlank cX5_isBlank 1 (some .boolean) ({ frames := 0, cells := 0, slots := 0, locals := 0 } : Room) [.int (nI b)] [] (fun w0 => some (.int (jB (jbl b)))) (fun w0 => []) (fun w0 => True) := by
  refine jM.of [some (.int (nI b))] rfl (Nat.le_of_ble_eq_true rfl) (by decide) ?_
  intro x g hE hin
  refine J.iload_n g dX5_isBlank_0 rfl rfl ?_
  refine J.bipush (v := nI 32) g dX5_isBlank_1 (by decide +kernel) ?_
  refine J.icmp_eqN g dX5_isBlank_3 (tgt := 12) (by decide) (by omega) (by omega) (fun c_3 => ?_) (fun c_3 => ?_)
  · refine J.iconstN g 1 dX5_isBlank_12 ?_
    refine J.goto g dX5_isBlank_13 (tgt := 17) (by decide) ?_
    exact J.zret (by first | rfl | exact j_nz _) g hE () (jB_t (by simp only [jbl, jdg, jal, decide_eq_true_eq, decide_eq_false_iff_not]; omega)) trivial rfl ⟨Nat.le_of_ble_eq_true rfl, Nat.le_of_ble_eq_true rfl⟩ dX5_isBlank_17
  · refine J.iload_n g dX5_isBlank_6 rfl rfl ?_
    refine J.bipush (v := nI 10) g dX5_isBlank_7 (by decide +kernel) ?_
    refine J.icmp_neN g dX5_isBlank_9 (tgt := 16) (by decide) (by omega) (by omega) (fun c_9 => ?_) (fun c_9 => ?_)
    · refine J.iconstN g 0 dX5_isBlank_16 ?_
      exact J.zret (by first | rfl | exact j_nz _) g hE () (jB_f (by simp only [jbl, jdg, jal, decide_eq_true_eq, decide_eq_false_iff_not]; omega)) trivial rfl ⟨Nat.le_of_ble_eq_true rfl, Nat.le_of_ble_eq_true rfl⟩ dX5_isBlank_17
    · refine J.iconstN g 1 dX5_isBlank_12 ?_
      refine J.goto g dX5_isBlank_13 (tgt := 17) (by decide) ?_
      exact J.zret (by first | rfl | exact j_nz _) g hE () (jB_t (by simp only [jbl, jdg, jal, decide_eq_true_eq, decide_eq_false_iff_not]; omega)) trivial rfl ⟨Nat.le_of_ble_eq_true rfl, Nat.le_of_ble_eq_true rfl⟩ dX5_isBlank_17
set_option maxHeartbeats 4000000 in
set_option maxRecDepth 100000 in
theorem c_X5_isDigit (l : Launch) (γ : jγ) (b : Nat) (hb : b < 256) : jM (S := Unit) l γ yX5_isDigit cX5_isDigit 1 (some .boolean) ({ frames := 0, cells := 0, slots := 0, locals := 0 } : Room) [.int (nI b)] [] (fun w0 => some (.int (jB (jdg b)))) (fun w0 => []) (fun w0 => True) := by
  refine jM.of [some (.int (nI b))] rfl (Nat.le_of_ble_eq_true rfl) (by decide) ?_
  intro x g hE hin
  refine J.iload_n g dX5_isDigit_0 rfl rfl ?_
  refine J.bipush (v := nI 48) g dX5_isDigit_1 (by decide +kernel) ?_
  refine J.icmp_ltN g dX5_isDigit_3 (tgt := 16) (by decide) (by omega) (by omega) (fun c_3 => ?_) (fun c_3 => ?_)
  · refine J.iconstN g 0 dX5_isDigit_16 ?_
    exact J.zret (by first | rfl | exact j_nz _) g hE () (jB_f (by simp only [jbl, jdg, jal, decide_eq_true_eq, decide_eq_false_iff_not]; omega)) trivial rfl ⟨Nat.le_of_ble_eq_true rfl, Nat.le_of_ble_eq_true rfl⟩ dX5_isDigit_17
  · refine J.iload_n g dX5_isDigit_6 rfl rfl ?_
    refine J.bipush (v := nI 57) g dX5_isDigit_7 (by decide +kernel) ?_
    refine J.icmp_gtN g dX5_isDigit_9 (tgt := 16) (by decide) (by omega) (by omega) (fun c_9 => ?_) (fun c_9 => ?_)
    · refine J.iconstN g 0 dX5_isDigit_16 ?_
      exact J.zret (by first | rfl | exact j_nz _) g hE () (jB_f (by simp only [jbl, jdg, jal, decide_eq_true_eq, decide_eq_false_iff_not]; omega)) trivial rfl ⟨Nat.le_of_ble_eq_true rfl, Nat.le_of_ble_eq_true rfl⟩ dX5_isDigit_17
    · refine J.iconstN g 1 dX5_isDigit_12 ?_
      refine J.goto g dX5_isDigit_13 (tgt := 17) (by decide) ?_
      exact J.zret (by first | rfl | exact j_nz _) g hE () (jB_t (by simp only [jbl, jdg, jal, decide_eq_true_eq, decide_eq_false_iff_not]; omega)) trivial rfl ⟨Nat.le_of_ble_eq_true rfl, Nat.le_of_ble_eq_true rfl⟩ dX5_isDigit_17
set_option maxHeartbeats 4000000 in
set_option maxRecDepth 100000 in
theorem c_X5_isLetterOrDigit (l : Launch) (γ : jγ) (b : Nat) (hb : b < 256) : jM (S := Unit) l γ yX5_isLetterOrDigit cX5_isLetterOrDigit 1 (some .boolean) ({ frames := 0, cells := 0, slots := 0, locals := 0 } : Room) [.int (nI b)] [] (fun w0 => some (.int (jB (jal b)))) (fun w0 => []) (fun w0 => True) := by
  refine jM.of [some (.int (nI b))] rfl (Nat.le_of_ble_eq_true rfl) (by decide) ?_
  intro x g hE hin
  refine J.iload_n g dX5_isLetterOrDigit_0 rfl rfl ?_
  refine J.bipush (v := nI 97) g dX5_isLetterOrDigit_1 (by decide +kernel) ?_
  refine J.icmp_ltN g dX5_isLetterOrDigit_3 (tgt := 12) (by decide) (by omega) (by omega) (fun c_3 => ?_) (fun c_3 => ?_)
  · refine J.iload_n g dX5_isLetterOrDigit_12 rfl rfl ?_
    refine J.bipush (v := nI 48) g dX5_isLetterOrDigit_13 (by decide +kernel) ?_
    refine J.icmp_ltN g dX5_isLetterOrDigit_15 (tgt := 28) (by decide) (by omega) (by omega) (fun c_15 => ?_) (fun c_15 => ?_)
    · refine J.iconstN g 0 dX5_isLetterOrDigit_28 ?_
      exact J.zret (by first | rfl | exact j_nz _) g hE () (jB_f (by simp only [jbl, jdg, jal, decide_eq_true_eq, decide_eq_false_iff_not]; omega)) trivial rfl ⟨Nat.le_of_ble_eq_true rfl, Nat.le_of_ble_eq_true rfl⟩ dX5_isLetterOrDigit_29
    · refine J.iload_n g dX5_isLetterOrDigit_18 rfl rfl ?_
      refine J.bipush (v := nI 57) g dX5_isLetterOrDigit_19 (by decide +kernel) ?_
      refine J.icmp_gtN g dX5_isLetterOrDigit_21 (tgt := 28) (by decide) (by omega) (by omega) (fun c_21 => ?_) (fun c_21 => ?_)
      · refine J.iconstN g 0 dX5_isLetterOrDigit_28 ?_
        exact J.zret (by first | rfl | exact j_nz _) g hE () (jB_f (by simp only [jbl, jdg, jal, decide_eq_true_eq, decide_eq_false_iff_not]; omega)) trivial rfl ⟨Nat.le_of_ble_eq_true rfl, Nat.le_of_ble_eq_true rfl⟩ dX5_isLetterOrDigit_29
      · refine J.iconstN g 1 dX5_isLetterOrDigit_24 ?_
        refine J.goto g dX5_isLetterOrDigit_25 (tgt := 29) (by decide) ?_
        exact J.zret (by first | rfl | exact j_nz _) g hE () (jB_t (by simp only [jbl, jdg, jal, decide_eq_true_eq, decide_eq_false_iff_not]; omega)) trivial rfl ⟨Nat.le_of_ble_eq_true rfl, Nat.le_of_ble_eq_true rfl⟩ dX5_isLetterOrDigit_29
  · refine J.iload_n g dX5_isLetterOrDigit_6 rfl rfl ?_
    refine J.bipush (v := nI 122) g dX5_isLetterOrDigit_7 (by decide +kernel) ?_
    refine J.icmp_leN g dX5_isLetterOrDigit_9 (tgt := 24) (by decide) (by omega) (by omega) (fun c_9 => ?_) (fun c_9 => ?_)
    · refine J.iconstN g 1 dX5_isLetterOrDigit_24 ?_
      refine J.goto g dX5_isLetterOrDigit_25 (tgt := 29) (by decide) ?_
      exact J.zret (by first | rfl | exact j_nz _) g hE () (jB_t (by simp only [jbl, jdg, jal, decide_eq_true_eq, decide_eq_false_iff_not]; omega)) trivial rfl ⟨Nat.le_of_ble_eq_true rfl, Nat.le_of_ble_eq_true rfl⟩ dX5_isLetterOrDigit_29
    · refine J.iload_n g dX5_isLetterOrDigit_12 rfl rfl ?_
      refine J.bipush (v := nI 48) g dX5_isLetterOrDigit_13 (by decide +kernel) ?_
      refine J.icmp_ltN g dX5_isLetterOrDigit_15 (tgt := 28) (by decide) (by omega) (by omega) (fun c_15 => ?_) (fun c_15 => ?_)
      · refine J.iconstN g 0 dX5_isLetterOrDigit_28 ?_
        exact J.zret (by first | rfl | exact j_nz _) g hE () (jB_f (by simp only [jbl, jdg, jal, decide_eq_true_eq, decide_eq_false_iff_not]; omega)) trivial rfl ⟨Nat.le_of_ble_eq_true rfl, Nat.le_of_ble_eq_true rfl⟩ dX5_isLetterOrDigit_29
      · refine J.iload_n g dX5_isLetterOrDigit_18 rfl rfl ?_
        refine J.bipush (v := nI 57) g dX5_isLetterOrDigit_19 (by decide +kernel) ?_
        refine J.icmp_gtN g dX5_isLetterOrDigit_21 (tgt := 28) (by decide) (by omega) (by omega) (fun c_21 => ?_) (fun c_21 => ?_)
        · refine J.iconstN g 0 dX5_isLetterOrDigit_28 ?_
          exact J.zret (by first | rfl | exact j_nz _) g hE () (jB_f (by simp only [jbl, jdg, jal, decide_eq_true_eq, decide_eq_false_iff_not]; omega)) trivial rfl ⟨Nat.le_of_ble_eq_true rfl, Nat.le_of_ble_eq_true rfl⟩ dX5_isLetterOrDigit_29
        · refine J.iconstN g 1 dX5_isLetterOrDigit_24 ?_
          refine J.goto g dX5_isLetterOrDigit_25 (tgt := 29) (by decide) ?_
          exact J.zret (by first | rfl | exact j_nz _) g hE () (jB_t (by simp only [jbl, jdg, jal, decide_eq_true_eq, decide_eq_false_iff_not]; omega)) trivial rfl ⟨Nat.le_of_ble_eq_true rfl, Nat.le_of_ble_eq_true rfl⟩ dX5_isLetterOrDigit_29
set_option maxHeartbeats 4000000 in
set_option maxRecDepth 100000 in
theorem c_X5_faultKind (l : Launch) (γ : jγ) (rd tp rr : Nat) (q : jRS)  : jM (S := Unit) l γ yX5_faultKind cX5_faultKind 1 (some .int) ({ frames := 0, cells := 0, slots := 0, locals := 0 } : Room) [.ref rd] [(rd, .inr (5, [.ref tp, .int (nI q.1.1), .int (nI q.1.2.1), .int (nI q.1.2.2.1), .int (nI q.1.2.2.2), .int (nI q.2.1.1), .int (nI q.2.1.2), .int (nI q.2.2.1.1), .int (nI q.2.2.1.2.1), .int q.2.2.1.2.2, .ref rr]))] (fun w0 => some (.int (nI q.2.2.1.1))) (fun w0 => [(rd, .inr (5, [.ref tp, .int (nI q.1.1), .int (nI q.1.2.1), .int (nI q.1.2.2.1), .int (nI q.1.2.2.2), .int (nI q.2.1.1), .int (nI q.2.1.2), .int (nI q.2.2.1.1), .int (nI q.2.2.1.2.1), .int q.2.2.1.2.2, .ref rr]))]) (fun w0 => True) := by
  refine jM.of [some (.ref rd)] rfl (Nat.le_of_ble_eq_true rfl) (by decide) ?_
  intro x g hE hin
  refine J.aload_n g dX5_faultKind_0 rfl rfl ?_
  refine J.get g jX5 7 (by decide) lf_X5_37 0 rfl rfl dX5_faultKind_1 ?_
  exact J.iret g hE () rfl trivial rfl ⟨Nat.le_of_ble_eq_true rfl, Nat.le_of_ble_eq_true rfl⟩ dX5_faultKind_4
set_option maxHeartbeats 4000000 in
set_option maxRecDepth 100000 in
theorem c_X5_faultPlace (l : Launch) (γ : jγ) (rd tp rr : Nat) (q : jRS)  : jM (S := Unit) l γ yX5_faultPlace cX5_faultPlace 1 (some .int) ({ frames := 0, cells := 0, slots := 0, locals := 0 } : Room) [.ref rd] [(rd, .inr (5, [.ref tp, .int (nI q.1.1), .int (nI q.1.2.1), .int (nI q.1.2.2.1), .int (nI q.1.2.2.2), .int (nI q.2.1.1), .int (nI q.2.1.2), .int (nI q.2.2.1.1), .int (nI q.2.2.1.2.1), .int q.2.2.1.2.2, .ref rr]))] (fun w0 => some (.int (nI q.2.2.1.2.1))) (fun w0 => [(rd, .inr (5, [.ref tp, .int (nI q.1.1), .int (nI q.1.2.1), .int (nI q.1.2.2.1), .int (nI q.1.2.2.2), .int (nI q.2.1.1), .int (nI q.2.1.2), .int (nI q.2.2.1.1), .int (nI q.2.2.1.2.1), .int q.2.2.1.2.2, .ref rr]))]) (fun w0 => True) := by
  refine jM.of [some (.ref rd)] rfl (Nat.le_of_ble_eq_true rfl) (by decide) ?_
  intro x g hE hin
  refine J.aload_n g dX5_faultPlace_0 rfl rfl ?_
  refine J.get g jX5 8 (by decide) lf_X5_40 0 rfl rfl dX5_faultPlace_1 ?_
  exact J.iret g hE () rfl trivial rfl ⟨Nat.le_of_ble_eq_true rfl, Nat.le_of_ble_eq_true rfl⟩ dX5_faultPlace_4
set_option maxHeartbeats 4000000 in
set_option maxRecDepth 100000 in
theorem c_X5_faultRow (l : Launch) (γ : jγ) (rd tp rr : Nat) (q : jRS)  : jM (S := Unit) l γ yX5_faultRow cX5_faultRow 1 (some .int) ({ frames := 0, cells := 0, slots := 0, locals := 0 } : Room) [.ref rd] [(rd, .inr (5, [.ref tp, .int (nI q.1.1), .int (nI q.1.2.1), .int (nI q.1.2.2.1), .int (nI q.1.2.2.2), .int (nI q.2.1.1), .int (nI q.2.1.2), .int (nI q.2.2.1.1), .int (nI q.2.2.1.2.1), .int q.2.2.1.2.2, .ref rr]))] (fun w0 => some (.int q.2.2.1.2.2)) (fun w0 => [(rd, .inr (5, [.ref tp, .int (nI q.1.1), .int (nI q.1.2.1), .int (nI q.1.2.2.1), .int (nI q.1.2.2.2), .int (nI q.2.1.1), .int (nI q.2.1.2), .int (nI q.2.2.1.1), .int (nI q.2.2.1.2.1), .int q.2.2.1.2.2, .ref rr]))]) (fun w0 => True) := by
  refine jM.of [some (.ref rd)] rfl (Nat.le_of_ble_eq_true rfl) (by decide) ?_
  intro x g hE hin
  refine J.aload_n g dX5_faultRow_0 rfl rfl ?_
  refine J.get g jX5 9 (by decide) lf_X5_43 0 rfl rfl dX5_faultRow_1 ?_
  exact J.iret g hE () rfl trivial rfl ⟨Nat.le_of_ble_eq_true rfl, Nat.le_of_ble_eq_true rfl⟩ dX5_faultRow_4
set_option maxHeartbeats 4000000 in
set_option maxRecDepth 100000 in
theorem c_X5_groupCode (l : Launch) (γ : jγ) (rd tp rr : Nat) (q : jRS)  : jM (S := Unit) l γ yX5_groupCode cX5_groupCode 1 (some .int) ({ frames := 0, cells := 0, slots := 0, locals := 0 } : Room) [.ref rd] [(rd, .inr (5, [.ref tp, .int (nI q.1.1), .int (nI q.1.2.1), .int (nI q.1.2.2.1), .int (nI q.1.2.2.2), .int (nI q.2.1.1), .int (nI q.2.1.2), .int (nI q.2.2.1.1), .int (nI q.2.2.1.2.1), .int q.2.2.1.2.2, .ref rr]))] (fun w0 => some (.int (nI q.2.1.1))) (fun w0 => [(rd, .inr (5, [.ref tp, .int (nI q.1.1), .int (nI q.1.2.1), .int (nI q.1.2.2.1), .int (nI q.1.2.2.2), .int (nI q.2.1.1), .int (nI q.2.1.2), .int (nI q.2.2.1.1), .int (nI q.2.2.1.2.1), .int q.2.2.1.2.2, .ref rr]))]) (fun w0 => True) := by
  refine jM.of [some (.ref rd)] rfl (Nat.le_of_ble_eq_true rfl) (by decide) ?_
  intro x g hE hin
  refine J.aload_n g dX5_groupCode_0 rfl rfl ?_
  refine J.get g jX5 5 (by decide) lf_X5_31 0 rfl rfl dX5_groupCode_1 ?_
  exact J.iret g hE () rfl trivial rfl ⟨Nat.le_of_ble_eq_true rfl, Nat.le_of_ble_eq_true rfl⟩ dX5_groupCode_4
set_option maxHeartbeats 4000000 in
set_option maxRecDepth 100000 in
theorem c_X5_rowsRead (l : Launch) (γ : jγ) (rd tp rr : Nat) (q : jRS)  : jM (S := Unit) l γ yX5_rowsRead cX5_rowsRead 1 (some .int) ({ frames := 0, cells := 0, slots := 0, locals := 0 } : Room) [.ref rd] [(rd, .inr (5, [.ref tp, .int (nI q.1.1), .int (nI q.1.2.1), .int (nI q.1.2.2.1), .int (nI q.1.2.2.2), .int (nI q.2.1.1), .int (nI q.2.1.2), .int (nI q.2.2.1.1), .int (nI q.2.2.1.2.1), .int q.2.2.1.2.2, .ref rr]))] (fun w0 => some (.int (nI q.2.1.2))) (fun w0 => [(rd, .inr (5, [.ref tp, .int (nI q.1.1), .int (nI q.1.2.1), .int (nI q.1.2.2.1), .int (nI q.1.2.2.2), .int (nI q.2.1.1), .int (nI q.2.1.2), .int (nI q.2.2.1.1), .int (nI q.2.2.1.2.1), .int q.2.2.1.2.2, .ref rr]))]) (fun w0 => True) := by
  refine jM.of [some (.ref rd)] rfl (Nat.le_of_ble_eq_true rfl) (by decide) ?_
  intro x g hE hin
  refine J.aload_n g dX5_rowsRead_0 rfl rfl ?_
  refine J.get g jX5 6 (by decide) lf_X5_34 0 rfl rfl dX5_rowsRead_1 ?_
  exact J.iret g hE () rfl trivial rfl ⟨Nat.le_of_ble_eq_true rfl, Nat.le_of_ble_eq_true rfl⟩ dX5_rowsRead_4
set_option maxHeartbeats 4000000 in
set_option maxRecDepth 100000 in
theorem c_X5_rowRead (l : Launch) (γ : jγ) (rd tp rr : Nat) (q : jRS)  : jM (S := Unit) l γ yX5_rowRead cX5_rowRead 1 (some (.object "NoughtSums$Row")) ({ frames := 0, cells := 0, slots := 0, locals := 0 } : Room) [.ref rd] [(rd, .inr (5, [.ref tp, .int (nI q.1.1), .int (nI q.1.2.1), .int (nI q.1.2.2.1), .int (nI q.1.2.2.2), .int (nI q.2.1.1), .int (nI q.2.1.2), .int (nI q.2.2.1.1), .int (nI q.2.2.1.2.1), .int q.2.2.1.2.2, .ref rr]))] (fun w0 => some (.ref rr)) (fun w0 => [(rd, .inr (5, [.ref tp, .int (nI q.1.1), .int (nI q.1.2.1), .int (nI q.1.2.2.1), .int (nI q.1.2.2.2), .int (nI q.2.1.1), .int (nI q.2.1.2), .int (nI q.2.2.1.1), .int (nI q.2.2.1.2.1), .int q.2.2.1.2.2, .ref rr]))]) (fun w0 => True) := by
  refine jM.of [some (.ref rd)] rfl (Nat.le_of_ble_eq_true rfl) (by decide) ?_
  intro x g hE hin
  refine J.aload_n g dX5_rowRead_0 rfl rfl ?_
  refine J.get g jX5 10 (by decide) lf_X5_49 0 rfl rfl dX5_rowRead_1 ?_
  exact J.aret (Or.inr ⟨_, rfl⟩) g hE () rfl trivial rfl ⟨Nat.le_of_ble_eq_true rfl, Nat.le_of_ble_eq_true rfl⟩ dX5_rowRead_4
set_option maxHeartbeats 4000000 in
set_option maxRecDepth 100000 in
theorem c_X5_failAt (l : Launch) (γ : jγ) (rd tp tb tl rr rre : Nat) (tf : Nat → Int32) (q : jRS) (k pl : Nat)  : jM (S := jRS) l γ yX5_failAt cX5_failAt 3 (some .boolean) ({ frames := 0, cells := 0, slots := 0, locals := 0 } : Room) [.ref rd, .int (nI k), .int (nI pl)] [(rd, .inr (5, [.ref tp, .int (nI q.1.1), .int (nI q.1.2.1), .int (nI q.1.2.2.1), .int (nI q.1.2.2.2), .int (nI q.2.1.1), .int (nI q.2.1.2), .int (nI q.2.2.1.1), .int (nI q.2.2.1.2.1), .int q.2.2.1.2.2, .ref rr])), (tp, .inr (9, [.ref tb, .int (nI tl)])), (tb, .inl (γ.2 1, 340, .inl tf)), (rr, .inr (6, [.ref rre, .int (nI q.2.2.2.1)])), (rre, .inl (γ.2 0, 12, .inl (fun j => nI ((q.2.2.2.2) j))))] (fun u => some (.int (jB false))) (fun u => [(rd, .inr (5, [.ref tp, .int (nI u.1.1), .int (nI u.1.2.1), .int (nI u.1.2.2.1), .int (nI u.1.2.2.2), .int (nI u.2.1.1), .int (nI u.2.1.2), .int (nI u.2.2.1.1), .int (nI u.2.2.1.2.1), .int u.2.2.1.2.2, .ref rr])), (tp, .inr (9, [.ref tb, .int (nI tl)])), (tb, .inl (γ.2 1, 340, .inl tf)), (rr, .inr (6, [.ref rre, .int (nI u.2.2.2.1)])), (rre, .inl (γ.2 0, 12, .inl (fun j => nI ((u.2.2.2.2) j))))]) (fun u => u = jrFail k pl q) := by
  refine jM.of [some (.ref rd), some (.int (nI k)), some (.int (nI pl))] rfl (Nat.le_of_ble_eq_true rfl) (by decide) ?_
  intro x g hE hin
  refine J.aload_n g dX5_failAt_0 rfl rfl ?_
  refine J.iload_n g dX5_failAt_1 rfl rfl ?_
  refine J.put g jX5 7 (by decide) lf_X5_37 0 rfl rfl (Nat.le_of_ble_eq_true rfl) rfl rfl dX5_failAt_2 ?_
  try dsimp only [List.set_cons_zero, List.set_cons_succ]
  refine J.aload_n g dX5_failAt_5 rfl rfl ?_
  refine J.iload_n g dX5_failAt_6 rfl rfl ?_
  refine J.put g jX5 8 (by decide) lf_X5_40 0 rfl rfl (Nat.le_of_ble_eq_true rfl) rfl rfl dX5_failAt_7 ?_
  try dsimp only [List.set_cons_zero, List.set_cons_succ]
  refine J.aload_n g dX5_failAt_10 rfl rfl ?_
  refine J.aload_n g dX5_failAt_11 rfl rfl ?_
  refine J.get g jX5 6 (by decide) lf_X5_34 0 rfl rfl dX5_failAt_12 ?_
  refine J.put g jX5 9 (by decide) lf_X5_43 0 rfl rfl (Nat.le_of_ble_eq_true rfl) rfl rfl dX5_failAt_15 ?_
  try dsimp only [List.set_cons_zero, List.set_cons_succ]
  refine J.iconstN g 0 dX5_failAt_18 ?_
  exact J.zret (by first | rfl | exact j_nz _) g hE (jrFail k pl q) (jB_f (by rfl)) rfl rfl ⟨Nat.le_of_ble_eq_true rfl, Nat.le_of_ble_eq_true rfl⟩ dX5_failAt_19
set_option maxHeartbeats 4000000 in
set_option maxRecDepth 100000 in
theorem c_X5_fail (l : Launch) (γ : jγ) (rd tp tb tl rr rre : Nat) (tf : Nat → Int32) (q : jRS) (k : Nat)  : jM (S := jRS) l γ yX5_fail cX5_fail 2 (some .boolean) ({ frames := 1, cells := 0, slots := 0, locals := 22 } : Room) [.ref rd, .int (nI k)] [(rd, .inr (5, [.ref tp, .int (nI q.1.1), .int (nI q.1.2.1), .int (nI q.1.2.2.1), .int (nI q.1.2.2.2), .int (nI q.2.1.1), .int (nI q.2.1.2), .int (nI q.2.2.1.1), .int (nI q.2.2.1.2.1), .int q.2.2.1.2.2, .ref rr])), (tp, .inr (9, [.ref tb, .int (nI tl)])), (tb, .inl (γ.2 1, 340, .inl tf)), (rr, .inr (6, [.ref rre, .int (nI q.2.2.2.1)])), (rre, .inl (γ.2 0, 12, .inl (fun j => nI ((q.2.2.2.2) j))))] (fun u => some (.int (jB false))) (fun u => [(rd, .inr (5, [.ref tp, .int (nI u.1.1), .int (nI u.1.2.1), .int (nI u.1.2.2.1), .int (nI u.1.2.2.2), .int (nI u.2.1.1), .int (nI u.2.1.2), .int (nI u.2.2.1.1), .int (nI u.2.2.1.2.1), .int u.2.2.1.2.2, .ref rr])), (tp, .inr (9, [.ref tb, .int (nI tl)])), (tb, .inl (γ.2 1, 340, .inl tf)), (rr, .inr (6, [.ref rre, .int (nI u.2.2.2.1)])), (rre, .inl (γ.2 0, 12, .inl (fun j => nI ((u.2.2.2.2) j))))]) (fun u => u = jrFail k q.1.2.2.1 q) := by
  refine jM.of [some (.ref rd), some (.int (nI k))] rfl (Nat.le_of_ble_eq_true rfl) (by decide) ?_
  intro x g hE hin
  refine J.aload_n g dX5_fail_0 rfl rfl ?_
  refine J.iload_n g dX5_fail_1 rfl rfl ?_
  refine J.aload_n g dX5_fail_2 rfl rfl ?_
  refine J.get g jX5 3 (by decide) lf_X5_25 0 rfl rfl dX5_fail_3 ?_
  refine J.callV g (c_X5_failAt l γ _ _ _ _ _ _ _ q k q.1.2.2.1 ) jy_X5_failAt lm_X5_89 (q0 := 0) rfl jX5.1 ⟨⟨Nat.le_of_ble_eq_true rfl, Nat.le_of_ble_eq_true rfl⟩, Nat.le_of_ble_eq_true rfl, Nat.le_of_ble_eq_true rfl⟩ (Nat.le_of_ble_eq_true rfl) rfl [0, 1, 2, 3, 4] rfl (fun _ => rfl) rfl dX5_fail_6 ?_
  intro u_6 h_6
  dsimp only [jput, List.set_cons_zero, List.set_cons_succ, Option.toList, List.append, List.cons_append, List.nil_append, List.append_nil]
  exact J.zret (by first | rfl | exact j_nz _) g hE u_6 rfl h_6 rfl ⟨Nat.le_of_ble_eq_true rfl, Nat.le_of_ble_eq_true rfl⟩ dX5_fail_9
set_option maxHeartbeats 4000000 in
set_option maxRecDepth 100000 in
theorem c_X5_spells (l : Launch) (γ : jγ) (rd tp tb tl rr rre : Nat) (tf : Nat → Int32) (q : jRS) (wi : Nat) (hl : tl ≤ 340) (hp : q.1.2.2.1 ≤ q.1.1) (hn : q.1.1 ≤ tl) (hw : wi < 4) : jM (S := Unit) l γ yX5_spells cX5_spells 3 (some .boolean) ({ frames := 4, cells := 0, slots := 0, locals := 90 } : Room) [.ref rd, .ref (γ.2 (100 + wi))] [(rd, .inr (5, [.ref tp, .int (nI q.1.1), .int (nI q.1.2.1), .int (nI q.1.2.2.1), .int (nI q.1.2.2.2), .int (nI q.2.1.1), .int (nI q.2.1.2), .int (nI q.2.2.1.1), .int (nI q.2.2.1.2.1), .int q.2.2.1.2.2, .ref rr])), (tp, .inr (9, [.ref tb, .int (nI tl)])), (tb, .inl (γ.2 1, 340, .inl tf)), (rr, .inr (6, [.ref rre, .int (nI q.2.2.2.1)])), (rre, .inl (γ.2 0, 12, .inl (fun j => nI ((q.2.2.2.2) j))))] (fun w0 => some (.int (jB (jspl (jbs tf) q.1.2.2.1 q.1.1 wi)))) (fun w0 => [(rd, .inr (5, [.ref tp, .int (nI q.1.1), .int (nI q.1.2.1), .int (nI q.1.2.2.1), .int (nI q.1.2.2.2), .int (nI q.2.1.1), .int (nI q.2.1.2), .int (nI q.2.2.1.1), .int (nI q.2.2.1.2.1), .int q.2.2.1.2.2, .ref rr])), (tp, .inr (9, [.ref tb, .int (nI tl)])), (tb, .inl (γ.2 1, 340, .inl tf)), (rr, .inr (6, [.ref rre, .int (nI q.2.2.2.1)])), (rre, .inl (γ.2 0, 12, .inl (fun j => nI ((q.2.2.2.2) j))))]) (fun w0 => True) := by
  refine jM.of [some (.ref rd), some (.ref (γ.2 (100 + wi))), none] rfl (Nat.le_of_ble_eq_true rfl) (by decide) ?_
  intro x g hE hin
  have hLL := jlen_lt wi hw
  refine J.aload_n g dX5_spells_0 rfl rfl ?_
  refine J.get g jX5 1 (by decide) lf_X5_18 0 rfl rfl dX5_spells_1 ?_
  refine J.aload_n g dX5_spells_4 rfl rfl ?_
  refine J.get g jX5 3 (by decide) lf_X5_25 0 rfl rfl dX5_spells_5 ?_
  refine J.isubN g dX5_spells_8 (by omega) ?_
  refine J.aload_n g dX5_spells_9 rfl rfl ?_
  refine J.callT g hw (c_J0_length l γ wi hw) jy_J0_length_8abf5 rfl lm_X5_135 ⟨⟨Nat.le_of_ble_eq_true rfl, Nat.le_of_ble_eq_true rfl⟩, Nat.le_of_ble_eq_true rfl, Nat.le_of_ble_eq_true rfl⟩ (Nat.le_of_ble_eq_true rfl) rfl dX5_spells_10 ?_
  intro _ _
  dsimp only [jpush]
  refine J.icmp_eqN g dX5_spells_13 (tgt := 18) (by decide) (by omega) (by omega) (fun c_13 => ?_) (fun c_13 => ?_)
  · refine J.iconstN g 0 dX5_spells_18 ?_
    refine J.istore_n g dX5_spells_19 rfl rfl rfl ?_
    try dsimp only [List.set_cons_zero, List.set_cons_succ]
    have lp : ∀ (d : Nat) (i : Nat), (jKb.getD wi []).length - i < d → (i ≤ (jKb.getD wi []).length) → (jsl (jbs tf) q.1.2.2.1 wi (jKb.getD wi []).length 0 = jsl (jbs tf) q.1.2.2.1 wi ((jKb.getD wi []).length - i) i) → J γ l x [(rd, .inr (5, [.ref tp, .int (nI q.1.1), .int (nI q.1.2.1), .int (nI q.1.2.2.1), .int (nI q.1.2.2.2), .int (nI q.2.1.1), .int (nI q.2.1.2), .int (nI q.2.2.1.1), .int (nI q.2.2.1.2.1), .int q.2.2.1.2.2, .ref rr])), (tp, .inr (9, [.ref tb, .int (nI tl)])), (tb, .inl (γ.2 1, 340, .inl tf)), (rr, .inr (6, [.ref rre, .int (nI q.2.2.2.1)])), (rre, .inl (γ.2 0, 12, .inl (fun j => nI ((q.2.2.2.2) j))))] [some (.ref rd), some (.ref (γ.2 (100 + wi))), some (.int (nI i))] [] 0 0 20 := by
      intro d
      induction d with
      | zero => intro i hm; exact absurd hm (Nat.not_lt_zero _)
      | succ d ih_lp =>
        intro i hm hi hr
        refine J.iload_n g dX5_spells_20 rfl rfl ?_
        refine J.aload_n g dX5_spells_21 rfl rfl ?_
        refine J.callT g hw (c_J0_length l γ wi hw) jy_J0_length_8abf5 rfl lm_X5_135 ⟨⟨Nat.le_of_ble_eq_true rfl, Nat.le_of_ble_eq_true rfl⟩, Nat.le_of_ble_eq_true rfl, Nat.le_of_ble_eq_true rfl⟩ (Nat.le_of_ble_eq_true rfl) rfl dX5_spells_22 ?_
        intro _ _
        dsimp only [jpush]
        refine J.icmp_geN g dX5_spells_25 (tgt := 57) (by decide) (by omega) (by omega) (fun c_25 => ?_) (fun c_25 => ?_)
        · refine J.iconstN g 1 dX5_spells_57 ?_
          exact J.zret (by first | rfl | exact j_nz _) g hE () (jB_t (by first | exact jspl_1 c_13 | exact jspl_2 c_13 (hr.trans (jsl_0 c_25)) | exact jspl_3 (hr.trans (jsl_f (by omega) c_46)))) trivial rfl ⟨Nat.le_of_ble_eq_true rfl, Nat.le_of_ble_eq_true rfl⟩ dX5_spells_58
        · refine J.aload_n g dX5_spells_28 rfl rfl ?_
          refine J.get g jX5 0 (by decide) lf_X5_12 0 rfl rfl dX5_spells_29 ?_
          refine J.aload_n g dX5_spells_32 rfl rfl ?_
          refine J.get g jX5 3 (by decide) lf_X5_25 0 rfl rfl dX5_spells_33 ?_
          refine J.iload_n g dX5_spells_36 rfl rfl ?_
          refine J.iaddN g dX5_spells_37 ?_
          refine J.callV0 g (c_X9_byteAt_n l γ _ _ _ _ _ hl (by omega)) jy_X9_byteAt lm_X5_109 (q0 := 1) rfl jX9.1 ⟨⟨Nat.le_of_ble_eq_true rfl, Nat.le_of_ble_eq_true rfl⟩, Nat.le_of_ble_eq_true rfl, Nat.le_of_ble_eq_true rfl⟩ (Nat.le_of_ble_eq_true rfl) rfl [1, 2] rfl rfl dX5_spells_38 ?_
          intro _ _
          dsimp only [jpush]
          have hc1 := jbs_lt tf (q.1.2.2.1 + i)
          refine J.aload_n g dX5_spells_41 rfl rfl ?_
          refine J.iload_n g dX5_spells_42 rfl rfl ?_
          refine J.callT g hw (c_J0_charAt l γ wi i hw (by omega)) jy_J0_charAt_5068e rfl lm_X5_138 ⟨⟨Nat.le_of_ble_eq_true rfl, Nat.le_of_ble_eq_true rfl⟩, Nat.le_of_ble_eq_true rfl, Nat.le_of_ble_eq_true rfl⟩ (Nat.le_of_ble_eq_true rfl) rfl dX5_spells_43 ?_
          intro _ _
          dsimp only [jpush]
          rw [jch_n wi hw i (by omega)]
          have hc2 := jcn_lt wi hw i (by omega)
          refine J.icmp_eqN g dX5_spells_46 (tgt := 51) (by decide) (by omega) (by omega) (fun c_46 => ?_) (fun c_46 => ?_)
          · refine J.iincN g 1 dX5_spells_51 rfl rfl ?_
            try dsimp only [List.set_cons_zero, List.set_cons_succ]
            refine J.goto g dX5_spells_54 (tgt := 20) (by decide) ?_
            exact J.lvle (jle_s (jle_s (jle_s jle_0))) (ih_lp (i + 1) (by omega) (by omega) (hr.trans (jsl_t (by omega) c_46)))
          · refine J.iconstN g 0 dX5_spells_49 ?_
            exact J.zret (by first | rfl | exact j_nz _) g hE () (jB_f (by first | exact jspl_1 c_13 | exact jspl_2 c_13 (hr.trans (jsl_0 c_25)) | exact jspl_3 (hr.trans (jsl_f (by omega) c_46)))) trivial rfl ⟨Nat.le_of_ble_eq_true rfl, Nat.le_of_ble_eq_true rfl⟩ dX5_spells_50
    exact J.lvle (jle_s (jle_s (jle_s jle_0))) (lp _ 0 (Nat.lt_succ_self _) (Nat.zero_le _) rfl)
  · refine J.iconstN g 0 dX5_spells_16 ?_
    exact J.zret (by first | rfl | exact j_nz _) g hE () (jB_f (by first | exact jspl_1 c_13 | exact jspl_2 c_13 (hr.trans (jsl_0 c_25)) | exact jspl_3 (hr.trans (jsl_f (by omega) c_46)))) trivial rfl ⟨Nat.le_of_ble_eq_true rfl, Nat.le_of_ble_eq_true rfl⟩ dX5_spells_17
set_option maxHeartbeats 4000000 in
set_option maxRecDepth 100000 in
theorem c_X5_isNumber (l : Launch) (γ : jγ) (rd tp tb tl rr rre : Nat) (tf : Nat → Int32) (q : jRS) (hl : tl ≤ 340) (hp : q.1.2.2.1 ≤ q.1.1) (hn : q.1.1 ≤ tl) : jM (S := Unit) l γ yX5_isNumber cX5_isNumber 3 (some .boolean) ({ frames := 1, cells := 0, slots := 0, locals := 21 } : Room) [.ref rd] [(rd, .inr (5, [.ref tp, .int (nI q.1.1), .int (nI q.1.2.1), .int (nI q.1.2.2.1), .int (nI q.1.2.2.2), .int (nI q.2.1.1), .int (nI q.2.1.2), .int (nI q.2.2.1.1), .int (nI q.2.2.1.2.1), .int q.2.2.1.2.2, .ref rr])), (tp, .inr (9, [.ref tb, .int (nI tl)])), (tb, .inl (γ.2 1, 340, .inl tf)), (rr, .inr (6, [.ref rre, .int (nI q.2.2.2.1)])), (rre, .inl (γ.2 0, 12, .inl (fun j => nI ((q.2.2.2.2) j))))] (fun w0 => some (.int (jB (jisn (jbs tf) q.1.2.2.1 q.1.1)))) (fun w0 => [(rd, .inr (5, [.ref tp, .int (nI q.1.1), .int (nI q.1.2.1), .int (nI q.1.2.2.1), .int (nI (jnb (jbs tf) q.1.2.2.1 q.1.1 q.1.2.2.2)), .int (nI q.2.1.1), .int (nI q.2.1.2), .int (nI q.2.2.1.1), .int (nI q.2.2.1.2.1), .int q.2.2.1.2.2, .ref rr])), (tp, .inr (9, [.ref tb, .int (nI tl)])), (tb, .inl (γ.2 1, 340, .inl tf)), (rr, .inr (6, [.ref rre, .int (nI q.2.2.2.1)])), (rre, .inl (γ.2 0, 12, .inl (fun j => nI ((q.2.2.2.2) j))))]) (fun w0 => True) := by
  refine jM.of [some (.ref rd), none, none] rfl (Nat.le_of_ble_eq_true rfl) (by decide) ?_
  intro x g hE hin
  refine J.aload_n g dX5_isNumber_0 rfl rfl ?_
  refine J.get g jX5 1 (by decide) lf_X5_18 0 rfl rfl dX5_isNumber_1 ?_
  refine J.aload_n g dX5_isNumber_4 rfl rfl ?_
  refine J.get g jX5 3 (by decide) lf_X5_25 0 rfl rfl dX5_isNumber_5 ?_
  refine J.isubN g dX5_isNumber_8 (by omega) ?_
  refine J.istore_n g dX5_isNumber_9 rfl rfl rfl ?_
  try dsimp only [List.set_cons_zero, List.set_cons_succ]
  refine J.iload_n g dX5_isNumber_10 rfl rfl ?_
  refine J.iconstN g 1 dX5_isNumber_11 ?_
  refine J.icmp_ltN g dX5_isNumber_12 (tgt := 20) (by decide) (by omega) (by omega) (fun c_12 => ?_) (fun c_12 => ?_)
  · refine J.iconstN g 0 dX5_isNumber_20 ?_
    exact J.zret (by first | rfl | exact j_nz _) g hE () (jB_f (by first | exact jisn_1 c_12 | exact jisn_2 c_17 | exact jisn_3 (hr.trans (jld_f (by omega) c_51)) (by omega) | exact jisn_4 c_12 c_17 (hr.trans (jld_e (by omega))) (by omega))) trivial (by first | rw [jnb_1 c_12] | rw [jnb_2 c_17]) ⟨Nat.le_of_ble_eq_true rfl, Nat.le_of_ble_eq_true rfl⟩ dX5_isNumber_21
  · refine J.iload_n g dX5_isNumber_15 rfl rfl ?_
    refine J.iconstN g 2 dX5_isNumber_16 ?_
    refine J.icmp_leN g dX5_isNumber_17 (tgt := 22) (by decide) (by omega) (by omega) (fun c_17 => ?_) (fun c_17 => ?_)
    · refine J.aload_n g dX5_isNumber_22 rfl rfl ?_
      refine J.iconstN g 0 dX5_isNumber_23 ?_
      refine J.put g jX5 4 (by decide) lf_X5_28 0 rfl rfl (Nat.le_of_ble_eq_true rfl) rfl rfl dX5_isNumber_24 ?_
      try dsimp only [List.set_cons_zero, List.set_cons_succ]
      refine J.aload_n g dX5_isNumber_27 rfl rfl ?_
      refine J.get g jX5 3 (by decide) lf_X5_25 0 rfl rfl dX5_isNumber_28 ?_
      refine J.istore_n g dX5_isNumber_31 rfl rfl rfl ?_
      try dsimp only [List.set_cons_zero, List.set_cons_succ]
      have lp : ∀ (d : Nat) (c : Nat), q.1.1 - q.1.2.2.1 - c < d → (c ≤ q.1.1 - q.1.2.2.1) → (jld (jbs tf) q.1.2.2.1 (q.1.1 - q.1.2.2.1) 0 = jld (jbs tf) q.1.2.2.1 (q.1.1 - q.1.2.2.1 - c) c) → J γ l x [(rd, .inr (5, [.ref tp, .int (nI q.1.1), .int (nI q.1.2.1), .int (nI q.1.2.2.1), .int (nI (jacc (jbs tf) q.1.2.2.1 c)), .int (nI q.2.1.1), .int (nI q.2.1.2), .int (nI q.2.2.1.1), .int (nI q.2.2.1.2.1), .int q.2.2.1.2.2, .ref rr])), (tp, .inr (9, [.ref tb, .int (nI tl)])), (tb, .inl (γ.2 1, 340, .inl tf)), (rr, .inr (6, [.ref rre, .int (nI q.2.2.2.1)])), (rre, .inl (γ.2 0, 12, .inl (fun j => nI ((q.2.2.2.2) j))))] [some (.ref rd), some (.int (nI (q.1.1 - q.1.2.2.1))), some (.int (nI (q.1.2.2.1 + c)))] [] 0 0 32 := by
        intro d
        induction d with
        | zero => intro c hm; exact absurd hm (Nat.not_lt_zero _)
        | succ d ih_lp =>
          intro c hm hi hr
          refine J.iload_n g dX5_isNumber_32 rfl rfl ?_
          refine J.aload_n g dX5_isNumber_33 rfl rfl ?_
          refine J.get g jX5 1 (by decide) lf_X5_18 0 rfl rfl dX5_isNumber_34 ?_
          refine J.icmp_geN g dX5_isNumber_37 (tgt := 85) (by decide) (by omega) (by omega) (fun c_37 => ?_) (fun c_37 => ?_)
          · refine J.iconstN g 1 dX5_isNumber_85 ?_
            exact J.zret (by first | rfl | exact j_nz _) g hE () (jB_t (by first | exact jisn_1 c_12 | exact jisn_2 c_17 | exact jisn_3 (hr.trans (jld_f (by omega) c_51)) (by omega) | exact jisn_4 c_12 c_17 (hr.trans (jld_e (by omega))) (by omega))) trivial (by rw [jnb_3 c_12 c_17 (hr.trans (jld_e (by omega)))]) ⟨Nat.le_of_ble_eq_true rfl, Nat.le_of_ble_eq_true rfl⟩ dX5_isNumber_86
          · refine J.aload_n g dX5_isNumber_40 rfl rfl ?_
            refine J.get g jX5 0 (by decide) lf_X5_12 0 rfl rfl dX5_isNumber_41 ?_
            refine J.iload_n g dX5_isNumber_44 rfl rfl ?_
            refine J.callV0 g (c_X9_byteAt_n l γ _ _ _ _ _ hl (by omega)) jy_X9_byteAt lm_X5_109 (q0 := 1) rfl jX9.1 ⟨⟨Nat.le_of_ble_eq_true rfl, Nat.le_of_ble_eq_true rfl⟩, Nat.le_of_ble_eq_true rfl, Nat.le_of_ble_eq_true rfl⟩ (Nat.le_of_ble_eq_true rfl) rfl [1, 2] rfl rfl dX5_isNumber_45 ?_
            intro _ _
            dsimp only [jpush]
            refine J.callS0 g (c_X5_isDigit l γ _ (jbs_lt _ _)) jy_X5_isDigit lm_X5_132 ⟨⟨Nat.le_of_ble_eq_true rfl, Nat.le_of_ble_eq_true rfl⟩, Nat.le_of_ble_eq_true rfl, Nat.le_of_ble_eq_true rfl⟩ (Nat.le_of_ble_eq_true rfl) rfl [] rfl rfl dX5_isNumber_48 ?_
            intro _ _
            dsimp only [jpush]
            refine J.if_neB g dX5_isNumber_51 (tgt := 56) (by decide) (fun c_51 => ?_) (fun c_51 => ?_)
            · refine J.aload_n g dX5_isNumber_56 rfl rfl ?_
              refine J.aload_n g dX5_isNumber_57 rfl rfl ?_
              refine J.get g jX5 4 (by decide) lf_X5_28 0 rfl rfl dX5_isNumber_58 ?_
              refine J.bipush (v := nI 10) g dX5_isNumber_61 (by decide +kernel) ?_
              refine J.imulN g dX5_isNumber_63 ?_
              refine J.aload_n g dX5_isNumber_64 rfl rfl ?_
              have hdd : 48 ≤ jbs tf (q.1.2.2.1 + c) := by have := c_51; simp only [jdg, decide_eq_true_eq] at this; exact this.1
              refine J.get g jX5 0 (by decide) lf_X5_12 0 rfl rfl dX5_isNumber_65 ?_
              refine J.iload_n g dX5_isNumber_68 rfl rfl ?_
              refine J.callV0 g (c_X9_byteAt_n l γ _ _ _ _ _ hl (by omega)) jy_X9_byteAt lm_X5_109 (q0 := 1) rfl jX9.1 ⟨⟨Nat.le_of_ble_eq_true rfl, Nat.le_of_ble_eq_true rfl⟩, Nat.le_of_ble_eq_true rfl, Nat.le_of_ble_eq_true rfl⟩ (Nat.le_of_ble_eq_true rfl) rfl [1, 2] rfl rfl dX5_isNumber_69 ?_
              intro _ _
              dsimp only [jpush]
              refine J.bipush (v := nI 48) g dX5_isNumber_72 (by decide +kernel) ?_
              refine J.isubN g dX5_isNumber_74 (by omega) ?_
              refine J.iaddN g dX5_isNumber_75 ?_
              refine J.put g jX5 4 (by decide) lf_X5_28 0 rfl rfl (Nat.le_of_ble_eq_true rfl) rfl rfl dX5_isNumber_76 ?_
              try dsimp only [List.set_cons_zero, List.set_cons_succ]
              refine J.iincN g 1 dX5_isNumber_79 rfl rfl ?_
              try dsimp only [List.set_cons_zero, List.set_cons_succ]
              refine J.goto g dX5_isNumber_82 (tgt := 32) (by decide) ?_
              exact J.lvle (jle_s (jle_s (jle_s jle_0))) (ih_lp (c + 1) (by omega) (by omega) (hr.trans (jld_t (by omega) c_51)))
            · refine J.iconstN g 0 dX5_isNumber_54 ?_
              exact J.zret (by first | rfl | exact j_nz _) g hE () (jB_f (by first | exact jisn_1 c_12 | exact jisn_2 c_17 | exact jisn_3 (hr.trans (jld_f (by omega) c_51)) (by omega) | exact jisn_4 c_12 c_17 (hr.trans (jld_e (by omega))) (by omega))) trivial (by rw [jnb_3 c_12 c_17 (hr.trans (jld_f (by omega) c_51))]) ⟨Nat.le_of_ble_eq_true rfl, Nat.le_of_ble_eq_true rfl⟩ dX5_isNumber_55
      exact J.lvle (jle_s (jle_s (jle_s jle_0))) (lp _ 0 (Nat.lt_succ_self _) (Nat.zero_le _) rfl)
    · refine J.iconstN g 0 dX5_isNumber_20 ?_
      exact J.zret (by first | rfl | exact j_nz _) g hE () (jB_f (by first | exact jisn_1 c_12 | exact jisn_2 c_17 | exact jisn_3 (hr.trans (jld_f (by omega) c_51)) (by omega) | exact jisn_4 c_12 c_17 (hr.trans (jld_e (by omega))) (by omega))) trivial (by first | rw [jnb_1 c_12] | rw [jnb_2 c_17]) ⟨Nat.le_of_ble_eq_true rfl, Nat.le_of_ble_eq_true rfl⟩ dX5_isNumber_21
set_option maxHeartbeats 4000000 in
set_option maxRecDepth 100000 in
theorem c_X5_readToken (l : Launch) (γ : jγ) (rd tp tb tl rr rre : Nat) (tf : Nat → Int32) (q : jRS) (hl : tl ≤ 340) (hq : jRB q) : jM (S := jRS) l γ yX5_readToken cX5_readToken 2 none ({ frames := 5, cells := 0, slots := 0, locals := 112 } : Room) [.ref rd] [(rd, .inr (5, [.ref tp, .int (nI q.1.1), .int (nI q.1.2.1), .int (nI q.1.2.2.1), .int (nI q.1.2.2.2), .int (nI q.2.1.1), .int (nI q.2.1.2), .int (nI q.2.2.1.1), .int (nI q.2.2.1.2.1), .int q.2.2.1.2.2, .ref rr])), (tp, .inr (9, [.ref tb, .int (nI tl)])), (tb, .inl (γ.2 1, 340, .inl tf)), (rr, .inr (6, [.ref rre, .int (nI q.2.2.2.1)])), (rre, .inl (γ.2 0, 12, .inl (fun j => nI ((q.2.2.2.2) j))))] (fun u => none) (fun u => [(rd, .inr (5, [.ref tp, .int (nI u.1.1), .int (nI u.1.2.1), .int (nI u.1.2.2.1), .int (nI u.1.2.2.2), .int (nI u.2.1.1), .int (nI u.2.1.2), .int (nI u.2.2.1.1), .int (nI u.2.2.1.2.1), .int u.2.2.1.2.2, .ref rr])), (tp, .inr (9, [.ref tb, .int (nI tl)])), (tb, .inl (γ.2 1, 340, .inl tf)), (rr, .inr (6, [.ref rre, .int (nI u.2.2.2.1)])), (rre, .inl (γ.2 0, 12, .inl (fun j => nI ((u.2.2.2.2) j))))]) (fun u => u = jrTok (jbs tf) tl q) := by
  refine jM.of [some (.ref rd), none] rfl (Nat.le_of_ble_eq_true rfl) (by decide) ?_
  intro x g hE hin
  refine J.aload_n g dX5_readToken_0 rfl rfl ?_
  refine J.get g jX5 0 (by decide) lf_X5_12 0 rfl rfl dX5_readToken_1 ?_
  refine J.callV0 g (c_X9_length l γ _ _ _ _ ) jy_X9_length lm_X5_103 (q0 := 1) rfl jX9.1 ⟨⟨Nat.le_of_ble_eq_true rfl, Nat.le_of_ble_eq_true rfl⟩, Nat.le_of_ble_eq_true rfl, Nat.le_of_ble_eq_true rfl⟩ (Nat.le_of_ble_eq_true rfl) rfl [1, 2] rfl rfl dX5_readToken_4 ?_
  intro _ _
  dsimp only [jpush]
  refine J.sipush (v := nI 300) g dX5_readToken_7 (by decide +kernel) ?_
  refine J.mmin g lm_X5_104 jm_min_s jm_i jm_min_c ⟨Nat.le_of_ble_eq_true rfl, Nat.le_of_ble_eq_true rfl, Nat.le_of_ble_eq_true rfl, Nat.le_of_ble_eq_true rfl⟩ (j_mn (by omega) (by omega)) dX5_readToken_10 ?_
  refine J.istore_n g dX5_readToken_13 rfl rfl rfl ?_
  try dsimp only [List.set_cons_zero, List.set_cons_succ]
  have lp : ∀ (d : Nat) (p : Nat), (min tl 300) - p < d → (p ≤ 340) → (lsk (jbs tf) ((min tl 300) - q.1.1) q.1.1 = lsk (jbs tf) ((min tl 300) - p) p) → J γ l x [(rd, .inr (5, [.ref tp, .int (nI p), .int (nI q.1.2.1), .int (nI q.1.2.2.1), .int (nI q.1.2.2.2), .int (nI q.2.1.1), .int (nI q.2.1.2), .int (nI q.2.2.1.1), .int (nI q.2.2.1.2.1), .int q.2.2.1.2.2, .ref rr])), (tp, .inr (9, [.ref tb, .int (nI tl)])), (tb, .inl (γ.2 1, 340, .inl tf)), (rr, .inr (6, [.ref rre, .int (nI q.2.2.2.1)])), (rre, .inl (γ.2 0, 12, .inl (fun j => nI ((q.2.2.2.2) j))))] [some (.ref rd), some (.int (nI (min tl 300)))] [] 0 0 14 := by
    intro d
    induction d with
    | zero => intro p hm; exact absurd hm (Nat.not_lt_zero _)
    | succ d ih_lp =>
      intro p hm hp hr
      refine J.aload_n g dX5_readToken_14 rfl rfl ?_
      refine J.get g jX5 1 (by decide) lf_X5_18 0 rfl rfl dX5_readToken_15 ?_
      refine J.iload_n g dX5_readToken_18 rfl rfl ?_
      refine J.icmp_geN g dX5_readToken_19 (tgt := 52) (by decide) (by omega) (by omega) (fun c_19 => ?_) (fun c_19 => ?_)
      · have hr0 : lsk (jbs tf) (min tl 300 - q.1.1) q.1.1 = p := by first | exact hr.trans (lsk_0 c_19) | exact hr.trans (lsk_f c_36)
        refine J.aload_n g dX5_readToken_52 rfl rfl ?_
        refine J.aload_n g dX5_readToken_53 rfl rfl ?_
        refine J.get g jX5 1 (by decide) lf_X5_18 0 rfl rfl dX5_readToken_54 ?_
        refine J.iload_n g dX5_readToken_57 rfl rfl ?_
        refine J.mmin g lm_X5_104 jm_min_s jm_i jm_min_c ⟨Nat.le_of_ble_eq_true rfl, Nat.le_of_ble_eq_true rfl, Nat.le_of_ble_eq_true rfl, Nat.le_of_ble_eq_true rfl⟩ (j_mn (by omega) (by omega)) dX5_readToken_58 ?_
        refine J.put g jX5 3 (by decide) lf_X5_25 0 rfl rfl (Nat.le_of_ble_eq_true rfl) rfl rfl dX5_readToken_61 ?_
        try dsimp only [List.set_cons_zero, List.set_cons_succ]
        refine J.aload_n g dX5_readToken_64 rfl rfl ?_
        refine J.get g jX5 1 (by decide) lf_X5_18 0 rfl rfl dX5_readToken_65 ?_
        refine J.iload_n g dX5_readToken_68 rfl rfl ?_
        refine J.icmp_ltN g dX5_readToken_69 (tgt := 95) (by decide) (by omega) (by omega) (fun c_69 => ?_) (fun c_69 => ?_)
        · refine J.aload_n g dX5_readToken_95 rfl rfl ?_
          refine J.get g jX5 0 (by decide) lf_X5_12 0 rfl rfl dX5_readToken_96 ?_
          refine J.aload_n g dX5_readToken_99 rfl rfl ?_
          refine J.get g jX5 1 (by decide) lf_X5_18 0 rfl rfl dX5_readToken_100 ?_
          refine J.callV0 g (c_X9_byteAt_n l γ _ _ _ _ _ hl (by omega)) jy_X9_byteAt lm_X5_109 (q0 := 1) rfl jX9.1 ⟨⟨Nat.le_of_ble_eq_true rfl, Nat.le_of_ble_eq_true rfl⟩, Nat.le_of_ble_eq_true rfl, Nat.le_of_ble_eq_true rfl⟩ (Nat.le_of_ble_eq_true rfl) rfl [1, 2] rfl rfl dX5_readToken_103 ?_
          intro _ _
          dsimp only [jpush]
          have hb1 := jbs_lt tf p
          refine J.bipush (v := nI 59) g dX5_readToken_106 (by decide +kernel) ?_
          refine J.icmp_neN g dX5_readToken_108 (tgt := 127) (by decide) (by omega) (by omega) (fun c_108 => ?_) (fun c_108 => ?_)
          · have lq : ∀ (d : Nat) (p2 : Nat), tl - p2 < d → (p ≤ p2 ∧ p2 ≤ tl) → (lrn (jbs tf) (tl - p) p = lrn (jbs tf) (tl - p2) p2) → J γ l x [(rd, .inr (5, [.ref tp, .int (nI p2), .int (nI q.1.2.1), .int (nI (min p (min tl 300))), .int (nI q.1.2.2.2), .int (nI q.2.1.1), .int (nI q.2.1.2), .int (nI q.2.2.1.1), .int (nI q.2.2.1.2.1), .int q.2.2.1.2.2, .ref rr])), (tp, .inr (9, [.ref tb, .int (nI tl)])), (tb, .inl (γ.2 1, 340, .inl tf)), (rr, .inr (6, [.ref rre, .int (nI q.2.2.2.1)])), (rre, .inl (γ.2 0, 12, .inl (fun j => nI ((q.2.2.2.2) j))))] [some (.ref rd), some (.int (nI (min tl 300)))] [] 0 0 127 := by
              intro d
              induction d with
              | zero => intro p2 hm; exact absurd hm (Nat.not_lt_zero _)
              | succ d ih_lq =>
                intro p2 hm hp2 hr2
                refine J.aload_n g dX5_readToken_127 rfl rfl ?_
                refine J.get g jX5 1 (by decide) lf_X5_18 0 rfl rfl dX5_readToken_128 ?_
                refine J.aload_n g dX5_readToken_131 rfl rfl ?_
                refine J.get g jX5 0 (by decide) lf_X5_12 0 rfl rfl dX5_readToken_132 ?_
                refine J.callV0 g (c_X9_length l γ _ _ _ _ ) jy_X9_length lm_X5_103 (q0 := 1) rfl jX9.1 ⟨⟨Nat.le_of_ble_eq_true rfl, Nat.le_of_ble_eq_true rfl⟩, Nat.le_of_ble_eq_true rfl, Nat.le_of_ble_eq_true rfl⟩ (Nat.le_of_ble_eq_true rfl) rfl [1, 2] rfl rfl dX5_readToken_135 ?_
                intro _ _
                dsimp only [jpush]
                refine J.icmp_geN g dX5_readToken_138 (tgt := 171) (by decide) (by omega) (by omega) (fun c_138 => ?_) (fun c_138 => ?_)
                · have hr1 : lrn (jbs tf) (tl - p) p = p2 := by first | exact hr2.trans (lrn_0 c_138) | exact hr2.trans (lrn_f c_155)
                  have hk0 := jtok_3 hr0 c_69 c_108 hr1
                  have hpp : min p (min tl 300) ≤ p2 := by omega
                  have hp2 : p2 ≤ tl := by omega
                  refine J.aload_n g dX5_readToken_171 rfl rfl ?_
                  refine J.callV g (c_X5_isNumber l γ _ _ _ _ _ _ _ ((p2, q.1.2.1, min p (min tl 300), q.1.2.2.2), q.2) hl hpp hp2) jy_X5_isNumber lm_X5_119 (q0 := 0) rfl jX5.1 ⟨⟨Nat.le_of_ble_eq_true rfl, Nat.le_of_ble_eq_true rfl⟩, Nat.le_of_ble_eq_true rfl, Nat.le_of_ble_eq_true rfl⟩ (Nat.le_of_ble_eq_true rfl) rfl [0, 1, 2, 3, 4] rfl (fun _ => rfl) rfl dX5_readToken_172 ?_
                  intro _ _
                  dsimp only [jput, List.set_cons_zero, List.set_cons_succ, Option.toList, List.append, List.cons_append, List.nil_append, List.append_nil]
                  refine J.if_eqB g dX5_readToken_175 (tgt := 186) (by decide) (fun c_175 => ?_) (fun c_175 => ?_)
                  · refine J.aload_n g dX5_readToken_186 rfl rfl ?_
                    refine J.ldcS g 0 rfl rfl dX5_readToken_187 ?_
                    refine J.callV0 g (c_X5_spells l γ _ _ _ _ _ _ _ ((p2, q.1.2.1, min p (min tl 300), jnb (jbs tf) (min p (min tl 300)) p2 q.1.2.2.2), q.2) 0 hl hpp hp2 (by decide)) jy_X5_spells lm_X5_124 (q0 := 0) rfl jX5.1 ⟨⟨Nat.le_of_ble_eq_true rfl, Nat.le_of_ble_eq_true rfl⟩, Nat.le_of_ble_eq_true rfl, Nat.le_of_ble_eq_true rfl⟩ (Nat.le_of_ble_eq_true rfl) rfl [0, 1, 2, 3, 4] rfl rfl dX5_readToken_189 ?_
                    intro _ _
                    dsimp only [jpush]
                    refine J.if_eqB g dX5_readToken_192 (tgt := 203) (by decide) (fun c_192 => ?_) (fun c_192 => ?_)
                    · refine J.aload_n g dX5_readToken_203 rfl rfl ?_
                      refine J.ldcS g 1 rfl rfl dX5_readToken_204 ?_
                      refine J.callV0 g (c_X5_spells l γ _ _ _ _ _ _ _ ((p2, q.1.2.1, min p (min tl 300), jnb (jbs tf) (min p (min tl 300)) p2 q.1.2.2.2), q.2) 1 hl hpp hp2 (by decide)) jy_X5_spells lm_X5_124 (q0 := 0) rfl jX5.1 ⟨⟨Nat.le_of_ble_eq_true rfl, Nat.le_of_ble_eq_true rfl⟩, Nat.le_of_ble_eq_true rfl, Nat.le_of_ble_eq_true rfl⟩ (Nat.le_of_ble_eq_true rfl) rfl [0, 1, 2, 3, 4] rfl rfl dX5_readToken_206 ?_
                      intro _ _
                      dsimp only [jpush]
                      refine J.if_eqB g dX5_readToken_209 (tgt := 220) (by decide) (fun c_209 => ?_) (fun c_209 => ?_)
                      · refine J.aload_n g dX5_readToken_220 rfl rfl ?_
                        refine J.aload_n g dX5_readToken_221 rfl rfl ?_
                        refine J.ldcS g 2 rfl rfl dX5_readToken_222 ?_
                        refine J.callV0 g (c_X5_spells l γ _ _ _ _ _ _ _ ((p2, q.1.2.1, min p (min tl 300), jnb (jbs tf) (min p (min tl 300)) p2 q.1.2.2.2), q.2) 2 hl hpp hp2 (by decide)) jy_X5_spells lm_X5_124 (q0 := 0) rfl jX5.1 ⟨⟨Nat.le_of_ble_eq_true rfl, Nat.le_of_ble_eq_true rfl⟩, Nat.le_of_ble_eq_true rfl, Nat.le_of_ble_eq_true rfl⟩ (Nat.le_of_ble_eq_true rfl) rfl [0, 1, 2, 3, 4] rfl rfl dX5_readToken_224 ?_
                        intro _ _
                        dsimp only [jpush]
                        refine J.if_eqB g dX5_readToken_227 (tgt := 235) (by decide) (fun c_227 => ?_) (fun c_227 => ?_)
                        · have hk : jkd (jbs tf) (min p (min tl 300)) p2 = 1 := by unfold jkd; rw [c_175, if_neg (by decide), c_192, if_neg (by decide), c_209, if_neg (by decide), c_227, if_neg (by decide)]
                          rw [hk] at hk0
                          refine J.iconstN g 1 dX5_readToken_235 ?_
                          refine J.put g jX5 2 (by decide) lf_X5_22 0 rfl rfl (Nat.le_of_ble_eq_true rfl) rfl rfl dX5_readToken_236 ?_
                          try dsimp only [List.set_cons_zero, List.set_cons_succ]
                          exact J.vret g hE (_, q.2) rfl (by rw [jrTok, hk0]) rfl ⟨Nat.le_of_ble_eq_true rfl, Nat.le_of_ble_eq_true rfl⟩ dX5_readToken_239
                        · have hk : jkd (jbs tf) (min p (min tl 300)) p2 = 6 := by unfold jkd; rw [c_175, if_neg (by decide), c_192, if_neg (by decide), c_209, if_neg (by decide), if_pos c_227]
                          rw [hk] at hk0
                          refine J.bipush (v := nI 6) g dX5_readToken_230 (by decide +kernel) ?_
                          refine J.goto g dX5_readToken_232 (tgt := 236) (by decide) ?_
                          refine J.put g jX5 2 (by decide) lf_X5_22 0 rfl rfl (Nat.le_of_ble_eq_true rfl) rfl rfl dX5_readToken_236 ?_
                          try dsimp only [List.set_cons_zero, List.set_cons_succ]
                          exact J.vret g hE (_, q.2) rfl (by rw [jrTok, hk0]) rfl ⟨Nat.le_of_ble_eq_true rfl, Nat.le_of_ble_eq_true rfl⟩ dX5_readToken_239
                      · have hk : jkd (jbs tf) (min p (min tl 300)) p2 = 5 := by unfold jkd; rw [c_175, if_neg (by decide), c_192, if_neg (by decide), if_pos c_209]
                        rw [hk] at hk0
                        refine J.aload_n g dX5_readToken_212 rfl rfl ?_
                        refine J.iconstN g 5 dX5_readToken_213 ?_
                        refine J.put g jX5 2 (by decide) lf_X5_22 0 rfl rfl (Nat.le_of_ble_eq_true rfl) rfl rfl dX5_readToken_214 ?_
                        try dsimp only [List.set_cons_zero, List.set_cons_succ]
                        refine J.goto g dX5_readToken_217 (tgt := 239) (by decide) ?_
                        exact J.vret g hE (_, q.2) rfl (by rw [jrTok, hk0]) rfl ⟨Nat.le_of_ble_eq_true rfl, Nat.le_of_ble_eq_true rfl⟩ dX5_readToken_239
                    · have hk : jkd (jbs tf) (min p (min tl 300)) p2 = 4 := by unfold jkd; rw [c_175, if_neg (by decide), if_pos c_192]
                      rw [hk] at hk0
                      refine J.aload_n g dX5_readToken_195 rfl rfl ?_
                      refine J.iconstN g 4 dX5_readToken_196 ?_
                      refine J.put g jX5 2 (by decide) lf_X5_22 0 rfl rfl (Nat.le_of_ble_eq_true rfl) rfl rfl dX5_readToken_197 ?_
                      try dsimp only [List.set_cons_zero, List.set_cons_succ]
                      refine J.goto g dX5_readToken_200 (tgt := 239) (by decide) ?_
                      exact J.vret g hE (_, q.2) rfl (by rw [jrTok, hk0]) rfl ⟨Nat.le_of_ble_eq_true rfl, Nat.le_of_ble_eq_true rfl⟩ dX5_readToken_239
                  · have hk : jkd (jbs tf) (min p (min tl 300)) p2 = 2 := by unfold jkd; rw [if_pos c_175]
                    rw [hk] at hk0
                    refine J.aload_n g dX5_readToken_178 rfl rfl ?_
                    refine J.iconstN g 2 dX5_readToken_179 ?_
                    refine J.put g jX5 2 (by decide) lf_X5_22 0 rfl rfl (Nat.le_of_ble_eq_true rfl) rfl rfl dX5_readToken_180 ?_
                    try dsimp only [List.set_cons_zero, List.set_cons_succ]
                    refine J.goto g dX5_readToken_183 (tgt := 239) (by decide) ?_
                    exact J.vret g hE (_, q.2) rfl (by rw [jrTok, hk0]) rfl ⟨Nat.le_of_ble_eq_true rfl, Nat.le_of_ble_eq_true rfl⟩ dX5_readToken_239
                · refine J.aload_n g dX5_readToken_141 rfl rfl ?_
                  refine J.get g jX5 0 (by decide) lf_X5_12 0 rfl rfl dX5_readToken_142 ?_
                  refine J.aload_n g dX5_readToken_145 rfl rfl ?_
                  refine J.get g jX5 1 (by decide) lf_X5_18 0 rfl rfl dX5_readToken_146 ?_
                  refine J.callV0 g (c_X9_byteAt_n l γ _ _ _ _ _ hl (by omega)) jy_X9_byteAt lm_X5_109 (q0 := 1) rfl jX9.1 ⟨⟨Nat.le_of_ble_eq_true rfl, Nat.le_of_ble_eq_true rfl⟩, Nat.le_of_ble_eq_true rfl, Nat.le_of_ble_eq_true rfl⟩ (Nat.le_of_ble_eq_true rfl) rfl [1, 2] rfl rfl dX5_readToken_149 ?_
                  intro _ _
                  dsimp only [jpush]
                  refine J.callS0 g (c_X5_isLetterOrDigit l γ _ (jbs_lt _ _)) jy_X5_isLetterOrDigit lm_X5_116 ⟨⟨Nat.le_of_ble_eq_true rfl, Nat.le_of_ble_eq_true rfl⟩, Nat.le_of_ble_eq_true rfl, Nat.le_of_ble_eq_true rfl⟩ (Nat.le_of_ble_eq_true rfl) rfl [] rfl rfl dX5_readToken_152 ?_
                  intro _ _
                  dsimp only [jpush]
                  refine J.if_eqB g dX5_readToken_155 (tgt := 171) (by decide) (fun c_155 => ?_) (fun c_155 => ?_)
                  · have hr1 : lrn (jbs tf) (tl - p) p = p2 := by first | exact hr2.trans (lrn_0 c_138) | exact hr2.trans (lrn_f c_155)
                    have hk0 := jtok_3 hr0 c_69 c_108 hr1
                    have hpp : min p (min tl 300) ≤ p2 := by omega
                    have hp2 : p2 ≤ tl := by omega
                    refine J.aload_n g dX5_readToken_171 rfl rfl ?_
                    refine J.callV g (c_X5_isNumber l γ _ _ _ _ _ _ _ ((p2, q.1.2.1, min p (min tl 300), q.1.2.2.2), q.2) hl hpp hp2) jy_X5_isNumber lm_X5_119 (q0 := 0) rfl jX5.1 ⟨⟨Nat.le_of_ble_eq_true rfl, Nat.le_of_ble_eq_true rfl⟩, Nat.le_of_ble_eq_true rfl, Nat.le_of_ble_eq_true rfl⟩ (Nat.le_of_ble_eq_true rfl) rfl [0, 1, 2, 3, 4] rfl (fun _ => rfl) rfl dX5_readToken_172 ?_
                    intro _ _
                    dsimp only [jput, List.set_cons_zero, List.set_cons_succ, Option.toList, List.append, List.cons_append, List.nil_append, List.append_nil]
                    refine J.if_eqB g dX5_readToken_175 (tgt := 186) (by decide) (fun c_175 => ?_) (fun c_175 => ?_)
                    · refine J.aload_n g dX5_readToken_186 rfl rfl ?_
                      refine J.ldcS g 0 rfl rfl dX5_readToken_187 ?_
                      refine J.callV0 g (c_X5_spells l γ _ _ _ _ _ _ _ ((p2, q.1.2.1, min p (min tl 300), jnb (jbs tf) (min p (min tl 300)) p2 q.1.2.2.2), q.2) 0 hl hpp hp2 (by decide)) jy_X5_spells lm_X5_124 (q0 := 0) rfl jX5.1 ⟨⟨Nat.le_of_ble_eq_true rfl, Nat.le_of_ble_eq_true rfl⟩, Nat.le_of_ble_eq_true rfl, Nat.le_of_ble_eq_true rfl⟩ (Nat.le_of_ble_eq_true rfl) rfl [0, 1, 2, 3, 4] rfl rfl dX5_readToken_189 ?_
                      intro _ _
                      dsimp only [jpush]
                      refine J.if_eqB g dX5_readToken_192 (tgt := 203) (by decide) (fun c_192 => ?_) (fun c_192 => ?_)
                      · refine J.aload_n g dX5_readToken_203 rfl rfl ?_
                        refine J.ldcS g 1 rfl rfl dX5_readToken_204 ?_
                        refine J.callV0 g (c_X5_spells l γ _ _ _ _ _ _ _ ((p2, q.1.2.1, min p (min tl 300), jnb (jbs tf) (min p (min tl 300)) p2 q.1.2.2.2), q.2) 1 hl hpp hp2 (by decide)) jy_X5_spells lm_X5_124 (q0 := 0) rfl jX5.1 ⟨⟨Nat.le_of_ble_eq_true rfl, Nat.le_of_ble_eq_true rfl⟩, Nat.le_of_ble_eq_true rfl, Nat.le_of_ble_eq_true rfl⟩ (Nat.le_of_ble_eq_true rfl) rfl [0, 1, 2, 3, 4] rfl rfl dX5_readToken_206 ?_
                        intro _ _
                        dsimp only [jpush]
                        refine J.if_eqB g dX5_readToken_209 (tgt := 220) (by decide) (fun c_209 => ?_) (fun c_209 => ?_)
                        · refine J.aload_n g dX5_readToken_220 rfl rfl ?_
                          refine J.aload_n g dX5_readToken_221 rfl rfl ?_
                          refine J.ldcS g 2 rfl rfl dX5_readToken_222 ?_
                          refine J.callV0 g (c_X5_spells l γ _ _ _ _ _ _ _ ((p2, q.1.2.1, min p (min tl 300), jnb (jbs tf) (min p (min tl 300)) p2 q.1.2.2.2), q.2) 2 hl hpp hp2 (by decide)) jy_X5_spells lm_X5_124 (q0 := 0) rfl jX5.1 ⟨⟨Nat.le_of_ble_eq_true rfl, Nat.le_of_ble_eq_true rfl⟩, Nat.le_of_ble_eq_true rfl, Nat.le_of_ble_eq_true rfl⟩ (Nat.le_of_ble_eq_true rfl) rfl [0, 1, 2, 3, 4] rfl rfl dX5_readToken_224 ?_
                          intro _ _
                          dsimp only [jpush]
                          refine J.if_eqB g dX5_readToken_227 (tgt := 235) (by decide) (fun c_227 => ?_) (fun c_227 => ?_)
                          · have hk : jkd (jbs tf) (min p (min tl 300)) p2 = 1 := by unfold jkd; rw [c_175, if_neg (by decide), c_192, if_neg (by decide), c_209, if_neg (by decide), c_227, if_neg (by decide)]
                            rw [hk] at hk0
                            refine J.iconstN g 1 dX5_readToken_235 ?_
                            refine J.put g jX5 2 (by decide) lf_X5_22 0 rfl rfl (Nat.le_of_ble_eq_true rfl) rfl rfl dX5_readToken_236 ?_
                            try dsimp only [List.set_cons_zero, List.set_cons_succ]
                            exact J.vret g hE (_, q.2) rfl (by rw [jrTok, hk0]) rfl ⟨Nat.le_of_ble_eq_true rfl, Nat.le_of_ble_eq_true rfl⟩ dX5_readToken_239
                          · have hk : jkd (jbs tf) (min p (min tl 300)) p2 = 6 := by unfold jkd; rw [c_175, if_neg (by decide), c_192, if_neg (by decide), c_209, if_neg (by decide), if_pos c_227]
                            rw [hk] at hk0
                            refine J.bipush (v := nI 6) g dX5_readToken_230 (by decide +kernel) ?_
                            refine J.goto g dX5_readToken_232 (tgt := 236) (by decide) ?_
                            refine J.put g jX5 2 (by decide) lf_X5_22 0 rfl rfl (Nat.le_of_ble_eq_true rfl) rfl rfl dX5_readToken_236 ?_
                            try dsimp only [List.set_cons_zero, List.set_cons_succ]
                            exact J.vret g hE (_, q.2) rfl (by rw [jrTok, hk0]) rfl ⟨Nat.le_of_ble_eq_true rfl, Nat.le_of_ble_eq_true rfl⟩ dX5_readToken_239
                        · have hk : jkd (jbs tf) (min p (min tl 300)) p2 = 5 := by unfold jkd; rw [c_175, if_neg (by decide), c_192, if_neg (by decide), if_pos c_209]
                          rw [hk] at hk0
                          refine J.aload_n g dX5_readToken_212 rfl rfl ?_
                          refine J.iconstN g 5 dX5_readToken_213 ?_
                          refine J.put g jX5 2 (by decide) lf_X5_22 0 rfl rfl (Nat.le_of_ble_eq_true rfl) rfl rfl dX5_readToken_214 ?_
                          try dsimp only [List.set_cons_zero, List.set_cons_succ]
                          refine J.goto g dX5_readToken_217 (tgt := 239) (by decide) ?_
                          exact J.vret g hE (_, q.2) rfl (by rw [jrTok, hk0]) rfl ⟨Nat.le_of_ble_eq_true rfl, Nat.le_of_ble_eq_true rfl⟩ dX5_readToken_239
                      · have hk : jkd (jbs tf) (min p (min tl 300)) p2 = 4 := by unfold jkd; rw [c_175, if_neg (by decide), if_pos c_192]
                        rw [hk] at hk0
                        refine J.aload_n g dX5_readToken_195 rfl rfl ?_
                        refine J.iconstN g 4 dX5_readToken_196 ?_
                        refine J.put g jX5 2 (by decide) lf_X5_22 0 rfl rfl (Nat.le_of_ble_eq_true rfl) rfl rfl dX5_readToken_197 ?_
                        try dsimp only [List.set_cons_zero, List.set_cons_succ]
                        refine J.goto g dX5_readToken_200 (tgt := 239) (by decide) ?_
                        exact J.vret g hE (_, q.2) rfl (by rw [jrTok, hk0]) rfl ⟨Nat.le_of_ble_eq_true rfl, Nat.le_of_ble_eq_true rfl⟩ dX5_readToken_239
                    · have hk : jkd (jbs tf) (min p (min tl 300)) p2 = 2 := by unfold jkd; rw [if_pos c_175]
                      rw [hk] at hk0
                      refine J.aload_n g dX5_readToken_178 rfl rfl ?_
                      refine J.iconstN g 2 dX5_readToken_179 ?_
                      refine J.put g jX5 2 (by decide) lf_X5_22 0 rfl rfl (Nat.le_of_ble_eq_true rfl) rfl rfl dX5_readToken_180 ?_
                      try dsimp only [List.set_cons_zero, List.set_cons_succ]
                      refine J.goto g dX5_readToken_183 (tgt := 239) (by decide) ?_
                      exact J.vret g hE (_, q.2) rfl (by rw [jrTok, hk0]) rfl ⟨Nat.le_of_ble_eq_true rfl, Nat.le_of_ble_eq_true rfl⟩ dX5_readToken_239
                  · refine J.aload_n g dX5_readToken_158 rfl rfl ?_
                    refine J.dup g dX5_readToken_159 rfl ?_
                    refine J.get g jX5 1 (by decide) lf_X5_18 0 rfl rfl dX5_readToken_160 ?_
                    refine J.iconstN g 1 dX5_readToken_163 ?_
                    refine J.iaddN g dX5_readToken_164 ?_
                    refine J.put g jX5 1 (by decide) lf_X5_18 0 rfl rfl (Nat.le_of_ble_eq_true rfl) rfl rfl dX5_readToken_165 ?_
                    try dsimp only [List.set_cons_zero, List.set_cons_succ]
                    refine J.goto g dX5_readToken_168 (tgt := 127) (by decide) ?_
                    exact J.lvle (jle_s (jle_s jle_0)) (ih_lq (p2 + 1) (by omega) (by omega) (hr2.trans (lrn_t (by omega) c_155)))
            exact J.lvle (jle_s (jle_s jle_0)) (lq _ p (Nat.lt_succ_self _) (by omega) rfl)
          · have hk := jtok_2 hr0 c_69 c_108
            refine J.aload_n g dX5_readToken_111 rfl rfl ?_
            refine J.iconstN g 3 dX5_readToken_112 ?_
            refine J.put g jX5 2 (by decide) lf_X5_22 0 rfl rfl (Nat.le_of_ble_eq_true rfl) rfl rfl dX5_readToken_113 ?_
            try dsimp only [List.set_cons_zero, List.set_cons_succ]
            refine J.aload_n g dX5_readToken_116 rfl rfl ?_
            refine J.dup g dX5_readToken_117 rfl ?_
            refine J.get g jX5 1 (by decide) lf_X5_18 0 rfl rfl dX5_readToken_118 ?_
            refine J.iconstN g 1 dX5_readToken_121 ?_
            refine J.iaddN g dX5_readToken_122 ?_
            refine J.put g jX5 1 (by decide) lf_X5_18 0 rfl rfl (Nat.le_of_ble_eq_true rfl) rfl rfl dX5_readToken_123 ?_
            try dsimp only [List.set_cons_zero, List.set_cons_succ]
            exact J.vret g hE (_, q.2) rfl (by rw [jrTok, hk]) rfl ⟨Nat.le_of_ble_eq_true rfl, Nat.le_of_ble_eq_true rfl⟩ dX5_readToken_126
        · refine J.aload_n g dX5_readToken_72 rfl rfl ?_
          refine J.aload_n g dX5_readToken_73 rfl rfl ?_
          refine J.get g jX5 0 (by decide) lf_X5_12 0 rfl rfl dX5_readToken_74 ?_
          refine J.callV0 g (c_X9_length l γ _ _ _ _ ) jy_X9_length lm_X5_103 (q0 := 1) rfl jX9.1 ⟨⟨Nat.le_of_ble_eq_true rfl, Nat.le_of_ble_eq_true rfl⟩, Nat.le_of_ble_eq_true rfl, Nat.le_of_ble_eq_true rfl⟩ (Nat.le_of_ble_eq_true rfl) rfl [1, 2] rfl rfl dX5_readToken_77 ?_
          intro _ _
          dsimp only [jpush]
          refine J.sipush (v := nI 300) g dX5_readToken_80 (by decide +kernel) ?_
          refine J.icmp_leN g dX5_readToken_83 (tgt := 90) (by decide) (by omega) (by omega) (fun c_83 => ?_) (fun c_83 => ?_)
          · have hk : jtok (jbs tf) tl q.1 = (p, 0, min p (min tl 300), q.1.2.2.2) := by rw [jtok_1 hr0 c_69, if_neg (by omega)]
            refine J.iconstN g 0 dX5_readToken_90 ?_
            refine J.put g jX5 2 (by decide) lf_X5_22 0 rfl rfl (Nat.le_of_ble_eq_true rfl) rfl rfl dX5_readToken_91 ?_
            try dsimp only [List.set_cons_zero, List.set_cons_succ]
            exact J.vret g hE (_, q.2) rfl (by rw [jrTok, hk]) rfl ⟨Nat.le_of_ble_eq_true rfl, Nat.le_of_ble_eq_true rfl⟩ dX5_readToken_94
          · have hk : jtok (jbs tf) tl q.1 = (p, 1, min p (min tl 300), q.1.2.2.2) := by rw [jtok_1 hr0 c_69, if_pos (by omega)]
            refine J.iconstN g 1 dX5_readToken_86 ?_
            refine J.goto g dX5_readToken_87 (tgt := 91) (by decide) ?_
            refine J.put g jX5 2 (by decide) lf_X5_22 0 rfl rfl (Nat.le_of_ble_eq_true rfl) rfl rfl dX5_readToken_91 ?_
            try dsimp only [List.set_cons_zero, List.set_cons_succ]
            exact J.vret g hE (_, q.2) rfl (by rw [jrTok, hk]) rfl ⟨Nat.le_of_ble_eq_true rfl, Nat.le_of_ble_eq_true rfl⟩ dX5_readToken_94
      · refine J.aload_n g dX5_readToken_22 rfl rfl ?_
        refine J.get g jX5 0 (by decide) lf_X5_12 0 rfl rfl dX5_readToken_23 ?_
        refine J.aload_n g dX5_readToken_26 rfl rfl ?_
        refine J.get g jX5 1 (by decide) lf_X5_18 0 rfl rfl dX5_readToken_27 ?_
        refine J.callV0 g (c_X9_byteAt_n l γ _ _ _ _ _ hl (by omega)) jy_X9_byteAt lm_X5_109 (q0 := 1) rfl jX9.1 ⟨⟨Nat.le_of_ble_eq_true rfl, Nat.le_of_ble_eq_true rfl⟩, Nat.le_of_ble_eq_true rfl, Nat.le_of_ble_eq_true rfl⟩ (Nat.le_of_ble_eq_true rfl) rfl [1, 2] rfl rfl dX5_readToken_30 ?_
        intro _ _
        dsimp only [jpush]
        refine J.callS0 g (c_X5_isBlank l γ _ (jbs_lt _ _)) jy_X5_isBlank lm_X5_113 ⟨⟨Nat.le_of_ble_eq_true rfl, Nat.le_of_ble_eq_true rfl⟩, Nat.le_of_ble_eq_true rfl, Nat.le_of_ble_eq_true rfl⟩ (Nat.le_of_ble_eq_true rfl) rfl [] rfl rfl dX5_readToken_33 ?_
        intro _ _
        dsimp only [jpush]
        refine J.if_eqB g dX5_readToken_36 (tgt := 52) (by decide) (fun c_36 => ?_) (fun c_36 => ?_)
        · have hr0 : lsk (jbs tf) (min tl 300 - q.1.1) q.1.1 = p := by first | exact hr.trans (lsk_0 c_19) | exact hr.trans (lsk_f c_36)
          refine J.aload_n g dX5_readToken_52 rfl rfl ?_
          refine J.aload_n g dX5_readToken_53 rfl rfl ?_
          refine J.get g jX5 1 (by decide) lf_X5_18 0 rfl rfl dX5_readToken_54 ?_
          refine J.iload_n g dX5_readToken_57 rfl rfl ?_
          refine J.mmin g lm_X5_104 jm_min_s jm_i jm_min_c ⟨Nat.le_of_ble_eq_true rfl, Nat.le_of_ble_eq_true rfl, Nat.le_of_ble_eq_true rfl, Nat.le_of_ble_eq_true rfl⟩ (j_mn (by omega) (by omega)) dX5_readToken_58 ?_
          refine J.put g jX5 3 (by decide) lf_X5_25 0 rfl rfl (Nat.le_of_ble_eq_true rfl) rfl rfl dX5_readToken_61 ?_
          try dsimp only [List.set_cons_zero, List.set_cons_succ]
          refine J.aload_n g dX5_readToken_64 rfl rfl ?_
          refine J.get g jX5 1 (by decide) lf_X5_18 0 rfl rfl dX5_readToken_65 ?_
          refine J.iload_n g dX5_readToken_68 rfl rfl ?_
          refine J.icmp_ltN g dX5_readToken_69 (tgt := 95) (by decide) (by omega) (by omega) (fun c_69 => ?_) (fun c_69 => ?_)
          · refine J.aload_n g dX5_readToken_95 rfl rfl ?_
            refine J.get g jX5 0 (by decide) lf_X5_12 0 rfl rfl dX5_readToken_96 ?_
            refine J.aload_n g dX5_readToken_99 rfl rfl ?_
            refine J.get g jX5 1 (by decide) lf_X5_18 0 rfl rfl dX5_readToken_100 ?_
            refine J.callV0 g (c_X9_byteAt_n l γ _ _ _ _ _ hl (by omega)) jy_X9_byteAt lm_X5_109 (q0 := 1) rfl jX9.1 ⟨⟨Nat.le_of_ble_eq_true rfl, Nat.le_of_ble_eq_true rfl⟩, Nat.le_of_ble_eq_true rfl, Nat.le_of_ble_eq_true rfl⟩ (Nat.le_of_ble_eq_true rfl) rfl [1, 2] rfl rfl dX5_readToken_103 ?_
            intro _ _
            dsimp only [jpush]
            have hb1 := jbs_lt tf p
            refine J.bipush (v := nI 59) g dX5_readToken_106 (by decide +kernel) ?_
            refine J.icmp_neN g dX5_readToken_108 (tgt := 127) (by decide) (by omega) (by omega) (fun c_108 => ?_) (fun c_108 => ?_)
            · have lq : ∀ (d : Nat) (p2 : Nat), tl - p2 < d → (p ≤ p2 ∧ p2 ≤ tl) → (lrn (jbs tf) (tl - p) p = lrn (jbs tf) (tl - p2) p2) → J γ l x [(rd, .inr (5, [.ref tp, .int (nI p2), .int (nI q.1.2.1), .int (nI (min p (min tl 300))), .int (nI q.1.2.2.2), .int (nI q.2.1.1), .int (nI q.2.1.2), .int (nI q.2.2.1.1), .int (nI q.2.2.1.2.1), .int q.2.2.1.2.2, .ref rr])), (tp, .inr (9, [.ref tb, .int (nI tl)])), (tb, .inl (γ.2 1, 340, .inl tf)), (rr, .inr (6, [.ref rre, .int (nI q.2.2.2.1)])), (rre, .inl (γ.2 0, 12, .inl (fun j => nI ((q.2.2.2.2) j))))] [some (.ref rd), some (.int (nI (min tl 300)))] [] 0 0 127 := by
                intro d
                induction d with
                | zero => intro p2 hm; exact absurd hm (Nat.not_lt_zero _)
                | succ d ih_lq =>
                  intro p2 hm hp2 hr2
                  refine J.aload_n g dX5_readToken_127 rfl rfl ?_
                  refine J.get g jX5 1 (by decide) lf_X5_18 0 rfl rfl dX5_readToken_128 ?_
                  refine J.aload_n g dX5_readToken_131 rfl rfl ?_
                  refine J.get g jX5 0 (by decide) lf_X5_12 0 rfl rfl dX5_readToken_132 ?_
                  refine J.callV0 g (c_X9_length l γ _ _ _ _ ) jy_X9_length lm_X5_103 (q0 := 1) rfl jX9.1 ⟨⟨Nat.le_of_ble_eq_true rfl, Nat.le_of_ble_eq_true rfl⟩, Nat.le_of_ble_eq_true rfl, Nat.le_of_ble_eq_true rfl⟩ (Nat.le_of_ble_eq_true rfl) rfl [1, 2] rfl rfl dX5_readToken_135 ?_
                  intro _ _
                  dsimp only [jpush]
                  refine J.icmp_geN g dX5_readToken_138 (tgt := 171) (by decide) (by omega) (by omega) (fun c_138 => ?_) (fun c_138 => ?_)
                  · have hr1 : lrn (jbs tf) (tl - p) p = p2 := by first | exact hr2.trans (lrn_0 c_138) | exact hr2.trans (lrn_f c_155)
                    have hk0 := jtok_3 hr0 c_69 c_108 hr1
                    have hpp : min p (min tl 300) ≤ p2 := by omega
                    have hp2 : p2 ≤ tl := by omega
                    refine J.aload_n g dX5_readToken_171 rfl rfl ?_
                    refine J.callV g (c_X5_isNumber l γ _ _ _ _ _ _ _ ((p2, q.1.2.1, min p (min tl 300), q.1.2.2.2), q.2) hl hpp hp2) jy_X5_isNumber lm_X5_119 (q0 := 0) rfl jX5.1 ⟨⟨Nat.le_of_ble_eq_true rfl, Nat.le_of_ble_eq_true rfl⟩, Nat.le_of_ble_eq_true rfl, Nat.le_of_ble_eq_true rfl⟩ (Nat.le_of_ble_eq_true rfl) rfl [0, 1, 2, 3, 4] rfl (fun _ => rfl) rfl dX5_readToken_172 ?_
                    intro _ _
                    dsimp only [jput, List.set_cons_zero, List.set_cons_succ, Option.toList, List.append, List.cons_append, List.nil_append, List.append_nil]
                    refine J.if_eqB g dX5_readToken_175 (tgt := 186) (by decide) (fun c_175 => ?_) (fun c_175 => ?_)
                    · refine J.aload_n g dX5_readToken_186 rfl rfl ?_
                      refine J.ldcS g 0 rfl rfl dX5_readToken_187 ?_
                      refine J.callV0 g (c_X5_spells l γ _ _ _ _ _ _ _ ((p2, q.1.2.1, min p (min tl 300), jnb (jbs tf) (min p (min tl 300)) p2 q.1.2.2.2), q.2) 0 hl hpp hp2 (by decide)) jy_X5_spells lm_X5_124 (q0 := 0) rfl jX5.1 ⟨⟨Nat.le_of_ble_eq_true rfl, Nat.le_of_ble_eq_true rfl⟩, Nat.le_of_ble_eq_true rfl, Nat.le_of_ble_eq_true rfl⟩ (Nat.le_of_ble_eq_true rfl) rfl [0, 1, 2, 3, 4] rfl rfl dX5_readToken_189 ?_
                      intro _ _
                      dsimp only [jpush]
                      refine J.if_eqB g dX5_readToken_192 (tgt := 203) (by decide) (fun c_192 => ?_) (fun c_192 => ?_)
                      · refine J.aload_n g dX5_readToken_203 rfl rfl ?_
                        refine J.ldcS g 1 rfl rfl dX5_readToken_204 ?_
                        refine J.callV0 g (c_X5_spells l γ _ _ _ _ _ _ _ ((p2, q.1.2.1, min p (min tl 300), jnb (jbs tf) (min p (min tl 300)) p2 q.1.2.2.2), q.2) 1 hl hpp hp2 (by decide)) jy_X5_spells lm_X5_124 (q0 := 0) rfl jX5.1 ⟨⟨Nat.le_of_ble_eq_true rfl, Nat.le_of_ble_eq_true rfl⟩, Nat.le_of_ble_eq_true rfl, Nat.le_of_ble_eq_true rfl⟩ (Nat.le_of_ble_eq_true rfl) rfl [0, 1, 2, 3, 4] rfl rfl dX5_readToken_206 ?_
                        intro _ _
                        dsimp only [jpush]
                        refine J.if_eqB g dX5_readToken_209 (tgt := 220) (by decide) (fun c_209 => ?_) (fun c_209 => ?_)
                        · refine J.aload_n g dX5_readToken_220 rfl rfl ?_
                          refine J.aload_n g dX5_readToken_221 rfl rfl ?_
                          refine J.ldcS g 2 rfl rfl dX5_readToken_222 ?_
                          refine J.callV0 g (c_X5_spells l γ _ _ _ _ _ _ _ ((p2, q.1.2.1, min p (min tl 300), jnb (jbs tf) (min p (min tl 300)) p2 q.1.2.2.2), q.2) 2 hl hpp hp2 (by decide)) jy_X5_spells lm_X5_124 (q0 := 0) rfl jX5.1 ⟨⟨Nat.le_of_ble_eq_true rfl, Nat.le_of_ble_eq_true rfl⟩, Nat.le_of_ble_eq_true rfl, Nat.le_of_ble_eq_true rfl⟩ (Nat.le_of_ble_eq_true rfl) rfl [0, 1, 2, 3, 4] rfl rfl dX5_readToken_224 ?_
                          intro _ _
                          dsimp only [jpush]
                          refine J.if_eqB g dX5_readToken_227 (tgt := 235) (by decide) (fun c_227 => ?_) (fun c_227 => ?_)
                          · have hk : jkd (jbs tf) (min p (min tl 300)) p2 = 1 := by unfold jkd; rw [c_175, if_neg (by decide), c_192, if_neg (by decide), c_209, if_neg (by decide), c_227, if_neg (by decide)]
                            rw [hk] at hk0
                            refine J.iconstN g 1 dX5_readToken_235 ?_
                            refine J.put g jX5 2 (by decide) lf_X5_22 0 rfl rfl (Nat.le_of_ble_eq_true rfl) rfl rfl dX5_readToken_236 ?_
                            try dsimp only [List.set_cons_zero, List.set_cons_succ]
                            exact J.vret g hE (_, q.2) rfl (by rw [jrTok, hk0]) rfl ⟨Nat.le_of_ble_eq_true rfl, Nat.le_of_ble_eq_true rfl⟩ dX5_readToken_239
                          · have hk : jkd (jbs tf) (min p (min tl 300)) p2 = 6 := by unfold jkd; rw [c_175, if_neg (by decide), c_192, if_neg (by decide), c_209, if_neg (by decide), if_pos c_227]
                            rw [hk] at hk0
                            refine J.bipush (v := nI 6) g dX5_readToken_230 (by decide +kernel) ?_
                            refine J.goto g dX5_readToken_232 (tgt := 236) (by decide) ?_
                            refine J.put g jX5 2 (by decide) lf_X5_22 0 rfl rfl (Nat.le_of_ble_eq_true rfl) rfl rfl dX5_readToken_236 ?_
                            try dsimp only [List.set_cons_zero, List.set_cons_succ]
                            exact J.vret g hE (_, q.2) rfl (by rw [jrTok, hk0]) rfl ⟨Nat.le_of_ble_eq_true rfl, Nat.le_of_ble_eq_true rfl⟩ dX5_readToken_239
                        · have hk : jkd (jbs tf) (min p (min tl 300)) p2 = 5 := by unfold jkd; rw [c_175, if_neg (by decide), c_192, if_neg (by decide), if_pos c_209]
                          rw [hk] at hk0
                          refine J.aload_n g dX5_readToken_212 rfl rfl ?_
                          refine J.iconstN g 5 dX5_readToken_213 ?_
                          refine J.put g jX5 2 (by decide) lf_X5_22 0 rfl rfl (Nat.le_of_ble_eq_true rfl) rfl rfl dX5_readToken_214 ?_
                          try dsimp only [List.set_cons_zero, List.set_cons_succ]
                          refine J.goto g dX5_readToken_217 (tgt := 239) (by decide) ?_
                          exact J.vret g hE (_, q.2) rfl (by rw [jrTok, hk0]) rfl ⟨Nat.le_of_ble_eq_true rfl, Nat.le_of_ble_eq_true rfl⟩ dX5_readToken_239
                      · have hk : jkd (jbs tf) (min p (min tl 300)) p2 = 4 := by unfold jkd; rw [c_175, if_neg (by decide), if_pos c_192]
                        rw [hk] at hk0
                        refine J.aload_n g dX5_readToken_195 rfl rfl ?_
                        refine J.iconstN g 4 dX5_readToken_196 ?_
                        refine J.put g jX5 2 (by decide) lf_X5_22 0 rfl rfl (Nat.le_of_ble_eq_true rfl) rfl rfl dX5_readToken_197 ?_
                        try dsimp only [List.set_cons_zero, List.set_cons_succ]
                        refine J.goto g dX5_readToken_200 (tgt := 239) (by decide) ?_
                        exact J.vret g hE (_, q.2) rfl (by rw [jrTok, hk0]) rfl ⟨Nat.le_of_ble_eq_true rfl, Nat.le_of_ble_eq_true rfl⟩ dX5_readToken_239
                    · have hk : jkd (jbs tf) (min p (min tl 300)) p2 = 2 := by unfold jkd; rw [if_pos c_175]
                      rw [hk] at hk0
                      refine J.aload_n g dX5_readToken_178 rfl rfl ?_
                      refine J.iconstN g 2 dX5_readToken_179 ?_
                      refine J.put g jX5 2 (by decide) lf_X5_22 0 rfl rfl (Nat.le_of_ble_eq_true rfl) rfl rfl dX5_readToken_180 ?_
                      try dsimp only [List.set_cons_zero, List.set_cons_succ]
                      refine J.goto g dX5_readToken_183 (tgt := 239) (by decide) ?_
                      exact J.vret g hE (_, q.2) rfl (by rw [jrTok, hk0]) rfl ⟨Nat.le_of_ble_eq_true rfl, Nat.le_of_ble_eq_true rfl⟩ dX5_readToken_239
                  · refine J.aload_n g dX5_readToken_141 rfl rfl ?_
                    refine J.get g jX5 0 (by decide) lf_X5_12 0 rfl rfl dX5_readToken_142 ?_
                    refine J.aload_n g dX5_readToken_145 rfl rfl ?_
                    refine J.get g jX5 1 (by decide) lf_X5_18 0 rfl rfl dX5_readToken_146 ?_
                    refine J.callV0 g (c_X9_byteAt_n l γ _ _ _ _ _ hl (by omega)) jy_X9_byteAt lm_X5_109 (q0 := 1) rfl jX9.1 ⟨⟨Nat.le_of_ble_eq_true rfl, Nat.le_of_ble_eq_true rfl⟩, Nat.le_of_ble_eq_true rfl, Nat.le_of_ble_eq_true rfl⟩ (Nat.le_of_ble_eq_true rfl) rfl [1, 2] rfl rfl dX5_readToken_149 ?_
                    intro _ _
                    dsimp only [jpush]
                    refine J.callS0 g (c_X5_isLetterOrDigit l γ _ (jbs_lt _ _)) jy_X5_isLetterOrDigit lm_X5_116 ⟨⟨Nat.le_of_ble_eq_true rfl, Nat.le_of_ble_eq_true rfl⟩, Nat.le_of_ble_eq_true rfl, Nat.le_of_ble_eq_true rfl⟩ (Nat.le_of_ble_eq_true rfl) rfl [] rfl rfl dX5_readToken_152 ?_
                    intro _ _
                    dsimp only [jpush]
                    refine J.if_eqB g dX5_readToken_155 (tgt := 171) (by decide) (fun c_155 => ?_) (fun c_155 => ?_)
                    · have hr1 : lrn (jbs tf) (tl - p) p = p2 := by first | exact hr2.trans (lrn_0 c_138) | exact hr2.trans (lrn_f c_155)
                      have hk0 := jtok_3 hr0 c_69 c_108 hr1
                      have hpp : min p (min tl 300) ≤ p2 := by omega
                      have hp2 : p2 ≤ tl := by omega
                      refine J.aload_n g dX5_readToken_171 rfl rfl ?_
                      refine J.callV g (c_X5_isNumber l γ _ _ _ _ _ _ _ ((p2, q.1.2.1, min p (min tl 300), q.1.2.2.2), q.2) hl hpp hp2) jy_X5_isNumber lm_X5_119 (q0 := 0) rfl jX5.1 ⟨⟨Nat.le_of_ble_eq_true rfl, Nat.le_of_ble_eq_true rfl⟩, Nat.le_of_ble_eq_true rfl, Nat.le_of_ble_eq_true rfl⟩ (Nat.le_of_ble_eq_true rfl) rfl [0, 1, 2, 3, 4] rfl (fun _ => rfl) rfl dX5_readToken_172 ?_
                      intro _ _
                      dsimp only [jput, List.set_cons_zero, List.set_cons_succ, Option.toList, List.append, List.cons_append, List.nil_append, List.append_nil]
                      refine J.if_eqB g dX5_readToken_175 (tgt := 186) (by decide) (fun c_175 => ?_) (fun c_175 => ?_)
                      · refine J.aload_n g dX5_readToken_186 rfl rfl ?_
                        refine J.ldcS g 0 rfl rfl dX5_readToken_187 ?_
                        refine J.callV0 g (c_X5_spells l γ _ _ _ _ _ _ _ ((p2, q.1.2.1, min p (min tl 300), jnb (jbs tf) (min p (min tl 300)) p2 q.1.2.2.2), q.2) 0 hl hpp hp2 (by decide)) jy_X5_spells lm_X5_124 (q0 := 0) rfl jX5.1 ⟨⟨Nat.le_of_ble_eq_true rfl, Nat.le_of_ble_eq_true rfl⟩, Nat.le_of_ble_eq_true rfl, Nat.le_of_ble_eq_true rfl⟩ (Nat.le_of_ble_eq_true rfl) rfl [0, 1, 2, 3, 4] rfl rfl dX5_readToken_189 ?_
                        intro _ _
                        dsimp only [jpush]
                        refine J.if_eqB g dX5_readToken_192 (tgt := 203) (by decide) (fun c_192 => ?_) (fun c_192 => ?_)
                        · refine J.aload_n g dX5_readToken_203 rfl rfl ?_
                          refine J.ldcS g 1 rfl rfl dX5_readToken_204 ?_
                          refine J.callV0 g (c_X5_spells l γ _ _ _ _ _ _ _ ((p2, q.1.2.1, min p (min tl 300), jnb (jbs tf) (min p (min tl 300)) p2 q.1.2.2.2), q.2) 1 hl hpp hp2 (by decide)) jy_X5_spells lm_X5_124 (q0 := 0) rfl jX5.1 ⟨⟨Nat.le_of_ble_eq_true rfl, Nat.le_of_ble_eq_true rfl⟩, Nat.le_of_ble_eq_true rfl, Nat.le_of_ble_eq_true rfl⟩ (Nat.le_of_ble_eq_true rfl) rfl [0, 1, 2, 3, 4] rfl rfl dX5_readToken_206 ?_
                          intro _ _
                          dsimp only [jpush]
                          refine J.if_eqB g dX5_readToken_209 (tgt := 220) (by decide) (fun c_209 => ?_) (fun c_209 => ?_)
                          · refine J.aload_n g dX5_readToken_220 rfl rfl ?_
                            refine J.aload_n g dX5_readToken_221 rfl rfl ?_
                            refine J.ldcS g 2 rfl rfl dX5_readToken_222 ?_
                            refine J.callV0 g (c_X5_spells l γ _ _ _ _ _ _ _ ((p2, q.1.2.1, min p (min tl 300), jnb (jbs tf) (min p (min tl 300)) p2 q.1.2.2.2), q.2) 2 hl hpp hp2 (by decide)) jy_X5_spells lm_X5_124 (q0 := 0) rfl jX5.1 ⟨⟨Nat.le_of_ble_eq_true rfl, Nat.le_of_ble_eq_true rfl⟩, Nat.le_of_ble_eq_true rfl, Nat.le_of_ble_eq_true rfl⟩ (Nat.le_of_ble_eq_true rfl) rfl [0, 1, 2, 3, 4] rfl rfl dX5_readToken_224 ?_
                            intro _ _
                            dsimp only [jpush]
                            refine J.if_eqB g dX5_readToken_227 (tgt := 235) (by decide) (fun c_227 => ?_) (fun c_227 => ?_)
                            · have hk : jkd (jbs tf) (min p (min tl 300)) p2 = 1 := by unfold jkd; rw [c_175, if_neg (by decide), c_192, if_neg (by decide), c_209, if_neg (by decide), c_227, if_neg (by decide)]
                              rw [hk] at hk0
                              refine J.iconstN g 1 dX5_readToken_235 ?_
                              refine J.put g jX5 2 (by decide) lf_X5_22 0 rfl rfl (Nat.le_of_ble_eq_true rfl) rfl rfl dX5_readToken_236 ?_
                              try dsimp only [List.set_cons_zero, List.set_cons_succ]
                              exact J.vret g hE (_, q.2) rfl (by rw [jrTok, hk0]) rfl ⟨Nat.le_of_ble_eq_true rfl, Nat.le_of_ble_eq_true rfl⟩ dX5_readToken_239
                            · have hk : jkd (jbs tf) (min p (min tl 300)) p2 = 6 := by unfold jkd; rw [c_175, if_neg (by decide), c_192, if_neg (by decide), c_209, if_neg (by decide), if_pos c_227]
                              rw [hk] at hk0
                              refine J.bipush (v := nI 6) g dX5_readToken_230 (by decide +kernel) ?_
                              refine J.goto g dX5_readToken_232 (tgt := 236) (by decide) ?_
                              refine J.put g jX5 2 (by decide) lf_X5_22 0 rfl rfl (Nat.le_of_ble_eq_true rfl) rfl rfl dX5_readToken_236 ?_
                              try dsimp only [List.set_cons_zero, List.set_cons_succ]
                              exact J.vret g hE (_, q.2) rfl (by rw [jrTok, hk0]) rfl ⟨Nat.le_of_ble_eq_true rfl, Nat.le_of_ble_eq_true rfl⟩ dX5_readToken_239
                          · have hk : jkd (jbs tf) (min p (min tl 300)) p2 = 5 := by unfold jkd; rw [c_175, if_neg (by decide), c_192, if_neg (by decide), if_pos c_209]
                            rw [hk] at hk0
                            refine J.aload_n g dX5_readToken_212 rfl rfl ?_
                            refine J.iconstN g 5 dX5_readToken_213 ?_
                            refine J.put g jX5 2 (by decide) lf_X5_22 0 rfl rfl (Nat.le_of_ble_eq_true rfl) rfl rfl dX5_readToken_214 ?_
                            try dsimp only [List.set_cons_zero, List.set_cons_succ]
                            refine J.goto g dX5_readToken_217 (tgt := 239) (by decide) ?_
                            exact J.vret g hE (_, q.2) rfl (by rw [jrTok, hk0]) rfl ⟨Nat.le_of_ble_eq_true rfl, Nat.le_of_ble_eq_true rfl⟩ dX5_readToken_239
                        · have hk : jkd (jbs tf) (min p (min tl 300)) p2 = 4 := by unfold jkd; rw [c_175, if_neg (by decide), if_pos c_192]
                          rw [hk] at hk0
                          refine J.aload_n g dX5_readToken_195 rfl rfl ?_
                          refine J.iconstN g 4 dX5_readToken_196 ?_
                          refine J.put g jX5 2 (by decide) lf_X5_22 0 rfl rfl (Nat.le_of_ble_eq_true rfl) rfl rfl dX5_readToken_197 ?_
                          try dsimp only [List.set_cons_zero, List.set_cons_succ]
                          refine J.goto g dX5_readToken_200 (tgt := 239) (by decide) ?_
                          exact J.vret g hE (_, q.2) rfl (by rw [jrTok, hk0]) rfl ⟨Nat.le_of_ble_eq_true rfl, Nat.le_of_ble_eq_true rfl⟩ dX5_readToken_239
                      · have hk : jkd (jbs tf) (min p (min tl 300)) p2 = 2 := by unfold jkd; rw [if_pos c_175]
                        rw [hk] at hk0
                        refine J.aload_n g dX5_readToken_178 rfl rfl ?_
                        refine J.iconstN g 2 dX5_readToken_179 ?_
                        refine J.put g jX5 2 (by decide) lf_X5_22 0 rfl rfl (Nat.le_of_ble_eq_true rfl) rfl rfl dX5_readToken_180 ?_
                        try dsimp only [List.set_cons_zero, List.set_cons_succ]
                        refine J.goto g dX5_readToken_183 (tgt := 239) (by decide) ?_
                        exact J.vret g hE (_, q.2) rfl (by rw [jrTok, hk0]) rfl ⟨Nat.le_of_ble_eq_true rfl, Nat.le_of_ble_eq_true rfl⟩ dX5_readToken_239
                    · refine J.aload_n g dX5_readToken_158 rfl rfl ?_
                      refine J.dup g dX5_readToken_159 rfl ?_
                      refine J.get g jX5 1 (by decide) lf_X5_18 0 rfl rfl dX5_readToken_160 ?_
                      refine J.iconstN g 1 dX5_readToken_163 ?_
                      refine J.iaddN g dX5_readToken_164 ?_
                      refine J.put g jX5 1 (by decide) lf_X5_18 0 rfl rfl (Nat.le_of_ble_eq_true rfl) rfl rfl dX5_readToken_165 ?_
                      try dsimp only [List.set_cons_zero, List.set_cons_succ]
                      refine J.goto g dX5_readToken_168 (tgt := 127) (by decide) ?_
                      exact J.lvle (jle_s (jle_s jle_0)) (ih_lq (p2 + 1) (by omega) (by omega) (hr2.trans (lrn_t (by omega) c_155)))
              exact J.lvle (jle_s (jle_s jle_0)) (lq _ p (Nat.lt_succ_self _) (by omega) rfl)
            · have hk := jtok_2 hr0 c_69 c_108
              refine J.aload_n g dX5_readToken_111 rfl rfl ?_
              refine J.iconstN g 3 dX5_readToken_112 ?_
              refine J.put g jX5 2 (by decide) lf_X5_22 0 rfl rfl (Nat.le_of_ble_eq_true rfl) rfl rfl dX5_readToken_113 ?_
              try dsimp only [List.set_cons_zero, List.set_cons_succ]
              refine J.aload_n g dX5_readToken_116 rfl rfl ?_
              refine J.dup g dX5_readToken_117 rfl ?_
              refine J.get g jX5 1 (by decide) lf_X5_18 0 rfl rfl dX5_readToken_118 ?_
              refine J.iconstN g 1 dX5_readToken_121 ?_
              refine J.iaddN g dX5_readToken_122 ?_
              refine J.put g jX5 1 (by decide) lf_X5_18 0 rfl rfl (Nat.le_of_ble_eq_true rfl) rfl rfl dX5_readToken_123 ?_
              try dsimp only [List.set_cons_zero, List.set_cons_succ]
              exact J.vret g hE (_, q.2) rfl (by rw [jrTok, hk]) rfl ⟨Nat.le_of_ble_eq_true rfl, Nat.le_of_ble_eq_true rfl⟩ dX5_readToken_126
          · refine J.aload_n g dX5_readToken_72 rfl rfl ?_
            refine J.aload_n g dX5_readToken_73 rfl rfl ?_
            refine J.get g jX5 0 (by decide) lf_X5_12 0 rfl rfl dX5_readToken_74 ?_
            refine J.callV0 g (c_X9_length l γ _ _ _ _ ) jy_X9_length lm_X5_103 (q0 := 1) rfl jX9.1 ⟨⟨Nat.le_of_ble_eq_true rfl, Nat.le_of_ble_eq_true rfl⟩, Nat.le_of_ble_eq_true rfl, Nat.le_of_ble_eq_true rfl⟩ (Nat.le_of_ble_eq_true rfl) rfl [1, 2] rfl rfl dX5_readToken_77 ?_
            intro _ _
            dsimp only [jpush]
            refine J.sipush (v := nI 300) g dX5_readToken_80 (by decide +kernel) ?_
            refine J.icmp_leN g dX5_readToken_83 (tgt := 90) (by decide) (by omega) (by omega) (fun c_83 => ?_) (fun c_83 => ?_)
            · have hk : jtok (jbs tf) tl q.1 = (p, 0, min p (min tl 300), q.1.2.2.2) := by rw [jtok_1 hr0 c_69, if_neg (by omega)]
              refine J.iconstN g 0 dX5_readToken_90 ?_
              refine J.put g jX5 2 (by decide) lf_X5_22 0 rfl rfl (Nat.le_of_ble_eq_true rfl) rfl rfl dX5_readToken_91 ?_
              try dsimp only [List.set_cons_zero, List.set_cons_succ]
              exact J.vret g hE (_, q.2) rfl (by rw [jrTok, hk]) rfl ⟨Nat.le_of_ble_eq_true rfl, Nat.le_of_ble_eq_true rfl⟩ dX5_readToken_94
            · have hk : jtok (jbs tf) tl q.1 = (p, 1, min p (min tl 300), q.1.2.2.2) := by rw [jtok_1 hr0 c_69, if_pos (by omega)]
              refine J.iconstN g 1 dX5_readToken_86 ?_
              refine J.goto g dX5_readToken_87 (tgt := 91) (by decide) ?_
              refine J.put g jX5 2 (by decide) lf_X5_22 0 rfl rfl (Nat.le_of_ble_eq_true rfl) rfl rfl dX5_readToken_91 ?_
              try dsimp only [List.set_cons_zero, List.set_cons_succ]
              exact J.vret g hE (_, q.2) rfl (by rw [jrTok, hk]) rfl ⟨Nat.le_of_ble_eq_true rfl, Nat.le_of_ble_eq_true rfl⟩ dX5_readToken_94
        · refine J.aload_n g dX5_readToken_39 rfl rfl ?_
          refine J.dup g dX5_readToken_40 rfl ?_
          refine J.get g jX5 1 (by decide) lf_X5_18 0 rfl rfl dX5_readToken_41 ?_
          refine J.iconstN g 1 dX5_readToken_44 ?_
          refine J.iaddN g dX5_readToken_45 ?_
          refine J.put g jX5 1 (by decide) lf_X5_18 0 rfl rfl (Nat.le_of_ble_eq_true rfl) rfl rfl dX5_readToken_46 ?_
          try dsimp only [List.set_cons_zero, List.set_cons_succ]
          refine J.goto g dX5_readToken_49 (tgt := 14) (by decide) ?_
          exact J.lvle (jle_s (jle_s jle_0)) (ih_lp (p + 1) (by omega) (by omega) (hr.trans (lsk_t (by omega) c_36)))
  exact J.lvle (jle_s (jle_s jle_0)) (lp _ q.1.1 (Nat.lt_succ_self _) hq.1.1 rfl)
