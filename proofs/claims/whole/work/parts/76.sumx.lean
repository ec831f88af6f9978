/-! rows of longs; what a throw reads; sum of the class, and the law's own sum -/
section
variable {γ : jγ} {l : Launch} {x : jE} {ws : va_W} {lv : List (Option Value)} {st : List Value} {cs sl pc : Nat}
variable {rm : Room} {cc : ByteArray} {own : String} {ret : Option FieldType}
theorem J.last (g : jG γ x rm cc own ret) (q0 : Nat) {a n k : Nat} {f : Nat → Int64} {v : Int64} (ha : ws[q0]? = some (a, .inl (γ.2 3, n, .inr (.inl f)))) (hk : k < n) (hn : n < 2 ^ 31) (hd : decode cc pc = .ok (.lastore, 1)) (kk : J γ l x (ws.set q0 (a, .inl (γ.2 3, n, .inr (.inl (vp_updL f k v))))) lv st cs sl (pc + 1)) : J γ l x ws lv (.long v :: .int (nI k) :: .ref a :: st) cs sl pc := by
  intro H locs ls hP hD hS hl0
  refine va_last g.1 g.2.1 g.2.2.2.2.2.1 hP hD hS q0 3 ha rfl (nI_in hk hn) hd (fun H1 locs1 hP1 hD1 hS1 => ?_)
  rw [nI_clamp (by omega)] at hP1 hD1
  exact kk H1 locs1 ls hP1 hD1 hS1 hl0
theorem J.lald (g : jG γ x rm cc own ret) (q0 : Nat) {a n k : Nat} {f : Nat → Int64} {v : Int64} (ha : ws[q0]? = some (a, .inl (γ.2 3, n, .inr (.inl f)))) (hk : k < n) (hn : n < 2 ^ 31) (hv : f k = v) (hd : decode cc pc = .ok (.laload, 1)) (kk : J γ l x ws lv (.long v :: st) cs sl (pc + 1)) : J γ l x ws lv (.int (nI k) :: .ref a :: st) cs sl pc := by
  intro H locs ls hP hD hS hl0
  refine va_lald g.1 g.2.1 g.2.2.2.2.2.1 hP q0 3 ha rfl (nI_in hk hn) hd ?_
  rw [nI_clamp (by omega), hv]
  exact kk H locs ls hP hD hS hl0
end
def jEB : List Cond := [.declares (Bundle.initS "java/lang/RuntimeException"), .declares (Bundle.initS "java/lang/Exception"), .declares (Bundle.initS Bundle.tN), .castable jEX jEX]
theorem jEB_all : jEW.all (fun w => goodWord w || decide (w ∈ jEB)) = true := by decide +kernel
theorem jEB_on : jEB.all (fun w => w.onTables) = true := by decide +kernel
/-- what a throw reads: two statics of Throwable, words of its classes -/
def jZ (A : Nat → Prop) (U : State) (H : Heap) : Prop := vx_Zq Bundle.tN "UNASSIGNED_STACK" Bundle.steD A U H ∧ vx_Zq Bundle.tN "SUPPRESSED_SENTINEL" Bundle.listD A U H ∧ ∀ w ∈ jEB, va_Nw w U
theorem jZ.warm {A : Nat → Prop} {s U : State} {H : Heap} (hW : s.WarmedH U.vm) (h : jZ A s H) : jZ A U H := by
  refine ⟨vx_Zq.moved hW.alike h.1, vx_Zq.moved hW.alike h.2.1, fun w hw => ?_⟩
  have h3 := h.2.2 w hw
  simp only [jEB, List.mem_cons, List.not_mem_nil, or_false] at hw
  rcases hw with rfl | rfl | rfl | rfl
  · exact va_Nw.warmD hW h3
  · exact va_Nw.warmD hW h3
  · exact va_Nw.warmD hW h3
  · exact va_Nw.warmC hW h3
theorem jZ.same {A : Nat → Prop} {u U : State} {H : Heap} (hv : u.vm = U.vm) (h : jZ A u H) : jZ A U H := by
  have ha : u.vm.Alike U.vm := hv ▸ Vm.Alike.refl u.vm
  exact ⟨vx_Zq.moved ha h.1, vx_Zq.moved ha h.2.1, fun w hw => va_Nw.same (List.all_eq_true.mp jEB_on w hw) hv (h.2.2 w hw)⟩
theorem jZ.kept {A : Nat → Prop} {U : State} {H H1 : Heap} (h : jZ A U H) (hq : ∀ a : Nat, a < H.size → ¬ A a → H1[a]? = H[a]?) : jZ A U H1 := ⟨h.1.kept hq, h.2.1.kept hq, h.2.2⟩
theorem jZ.narrow {A B : Nat → Prop} {U : State} {H : Heap} (h : jZ A U H) (hAB : ∀ q, B q → A q) : jZ B U H := ⟨h.1.narrow hAB, h.2.1.narrow hAB, h.2.2⟩
theorem jEW_at {γ : jγ} {x : jE} {rm : Room} {cc : ByteArray} {own : String} {ret : Option FieldType} (g : jG γ x rm cc own ret) (hz : ∀ w ∈ jEB, va_Nw w (jS x)) : ∀ w ∈ jEW, w.before (ja x) (jS x) = true := by
  intro w hw
  have h1 := List.all_eq_true.mp jEB_all w hw
  rw [Bool.or_eq_true] at h1
  rcases h1 with h | h
  · exact g.2.2.2.2.1 w (List.mem_filter.mpr ⟨List.mem_append_right _ (of_decide_eq_true (List.all_eq_true.mp jEW_in w hw)), h⟩)
  · have h2 := of_decide_eq_true h
    exact va_Nw.use (List.all_eq_true.mp jEB_on w h2) (hz w h2)
theorem jZFB (γ : jγ) (As : List Value) (ws0 : va_W) (sz : Nat) : FrameBlind (va_Pc As (fun U => jPre γ ws0 sz U ∧ jZ (va_A ws0 sz) U U.heap)) := by
  intro a U g mk q
  obtain ⟨q0, ⟨q1, qP, qK, qD, qX⟩, qZ⟩ := q
  exact ⟨q0, ⟨q1, qP, va_K.moved (u := U) (U := U.calling g mk a) (Vm.Alike.refl U.vm) qK, qD, jXX.same (u := U) (U := U.calling g mk a) rfl qX⟩, jZ.same (u := U) (U := U.calling g mk a) rfl qZ⟩
theorem jini_EX : Cond.initialized jEX ∈ jTT := jin 21 (by decide +kernel) rfl

set_option maxHeartbeats 4000000 in
set_option maxRecDepth 100000 in
theorem c_X10_sum_yes (l : Launch) (γ : jγ) (ns tp rd gr rw tr oo pa iq sr sgn pp mu : Nat) (dsd : Int32) (rwe n : Nat) (f : Nat → Nat) (mk ag cd pt od ex : Nat) (mf af : Nat → Nat) (s : Nat) (hn : n ≤ 12) (hT : jtab od mf af) (hf : ∀ j, j < n → f j < 24) (hs : 1 ≤ s ∧ s ≤ 2 ^ n - 1) : jM (S := Unit) l γ yX10_sum cX10_sum 2 (some .int) ({ frames := 3, cells := 0, slots := 0, locals := 67 } : Room) [.ref ns, .int (nI s)] [(ns, .inr (10, [.ref tp, .ref rd, .ref gr, .ref rw, .ref tr, .ref oo, .ref pa, .ref iq, .ref sr, .ref sgn, .ref pp, .ref mu, .int dsd])), (rw, .inr (6, [.ref rwe, .int (nI n)])), (rwe, .inl (γ.2 0, 12, .inl (fun j => nI (f j)))), (gr, .inr (0, [.ref mk, .ref ag, .int (nI cd), .int (nI pt), .int (nI od), .int (nI ex)])), (mk, .inl (γ.2 1, 576, .inl (fun j => nI (mf j)))), (ag, .inl (γ.2 1, 24, .inl (fun j => nI (af j))))] (fun w0 => some (.int (nI (jsum od mf f s n)))) (fun w0 => [(ns, .inr (10, [.ref tp, .ref rd, .ref gr, .ref rw, .ref tr, .ref oo, .ref pa, .ref iq, .ref sr, .ref sgn, .ref pp, .ref mu, .int dsd])), (rw, .inr (6, [.ref rwe, .int (nI n)])), (rwe, .inl (γ.2 0, 12, .inl (fun j => nI (f j)))), (gr, .inr (0, [.ref mk, .ref ag, .int (nI cd), .int (nI pt), .int (nI od), .int (nI ex)])), (mk, .inl (γ.2 1, 576, .inl (fun j => nI (mf j)))), (ag, .inl (γ.2 1, 24, .inl (fun j => nI (af j))))]) (fun w0 => True) := by
  refine jM.of [some (.ref ns), some (.int (nI s))] rfl (Nat.le_of_ble_eq_true rfl) (by decide) ?_
  intro x g hE hin
  have hp12 : 2 ^ n ≤ 2 ^ 12 := Nat.pow_le_pow_right (by omega) hn
  refine J.iload_n g dX10_sum_0 rfl rfl ?_
  refine J.iconstN g 1 dX10_sum_1 ?_
  refine J.icmp_ltN g dX10_sum_2 (tgt := 16) (by decide) (by omega) (by omega) (fun c_2 => absurd c_2 (by omega)) (fun c_2 => ?_)
  refine J.iload_n g dX10_sum_5 rfl rfl ?_
  refine J.aload_n g dX10_sum_6 rfl rfl ?_
  refine J.get g jX10 3 (by decide) lf_X10_33 0 rfl rfl dX10_sum_7 ?_
  refine J.callV0 g (c_X6_wholeSet l γ _ _ _ _ hn) jy_X6_wholeSet lm_X10_163 (q0 := 1) rfl jX6.1 ⟨⟨Nat.le_of_ble_eq_true rfl, Nat.le_of_ble_eq_true rfl⟩, Nat.le_of_ble_eq_true rfl, Nat.le_of_ble_eq_true rfl⟩ (Nat.le_of_ble_eq_true rfl) rfl [1, 2] rfl rfl dX10_sum_10 ?_
  intro _ _
  dsimp only [jpush]
  refine J.icmp_leN g dX10_sum_13 (tgt := 26) (by decide) (by omega) (by omega) (fun c_13 => ?_) (fun c_13 => absurd c_13 (by omega))
  refine J.aload_n g dX10_sum_26 rfl rfl ?_
  refine J.get g jX10 3 (by decide) lf_X10_33 0 rfl rfl dX10_sum_27 ?_
  refine J.aload_n g dX10_sum_30 rfl rfl ?_
  refine J.get g jX10 2 (by decide) lf_X10_26 0 rfl rfl dX10_sum_31 ?_
  refine J.iload_n g dX10_sum_34 rfl rfl ?_
  refine J.callV0 g (c_X6_sumOfSet l γ _ _ _ _ _ _ _ _ _ _ _ _ _ _ hn hT hf (by omega)) jy_X6_sumOfSet lm_X10_173 (q0 := 1) rfl jX6.1 ⟨⟨Nat.le_of_ble_eq_true rfl, Nat.le_of_ble_eq_true rfl⟩, Nat.le_of_ble_eq_true rfl, Nat.le_of_ble_eq_true rfl⟩ (Nat.le_of_ble_eq_true rfl) rfl [1, 2, 3, 4, 5] rfl rfl dX10_sum_35 ?_
  intro _ _
  dsimp only [jpush]
  exact J.iret g hE () rfl trivial rfl ⟨Nat.le_of_ble_eq_true rfl, Nat.le_of_ble_eq_true rfl⟩ dX10_sum_38

set_option maxHeartbeats 4000000 in
set_option maxRecDepth 100000 in
theorem cx_X10_sum (l : Launch) (hfl : l.stackTraces = false) (γ : jγ) (ns tp rd gr rw tr oo pa iq sr sgn pp mu : Nat) (dsd : Int32) (rwe n : Nat) (f : Nat → Nat) (i : Int32) (hn : n ≤ 12) (hi : mIn i (nI 1) (nI (2 ^ n - 1)) = false) (sz : Nat) :
    vx_Met l yX10_sum (jw yX10_sum cX10_sum 2 (some .int)) ({ frames := 6, cells := 1, slots := 6, locals := 130 } : Room) (va_Pc [.ref ns, .int i] (fun U => jPre γ [(ns, .inr (10, [.ref tp, .ref rd, .ref gr, .ref rw, .ref tr, .ref oo, .ref pa, .ref iq, .ref sr, .ref sgn, .ref pp, .ref mu, .int dsd])), (rw, .inr (6, [.ref rwe, .int (nI n)])), (rwe, .inl (γ.2 0, 12, .inl (fun j => nI (f j))))] sz U ∧ jZ (va_A [(ns, .inr (10, [.ref tp, .ref rd, .ref gr, .ref rw, .ref tr, .ref oo, .ref pa, .ref iq, .ref sr, .ref sgn, .ref pp, .ref mu, .int dsd])), (rw, .inr (6, [.ref rwe, .int (nI n)])), (rwe, .inl (γ.2 0, 12, .inl (fun j => nI (f j))))] sz) U U.heap))
      (va_Qi (S := Unit) (fun _ _ => False) (fun _ _ => True) (va_A [(ns, .inr (10, [.ref tp, .ref rd, .ref gr, .ref rw, .ref tr, .ref oo, .ref pa, .ref iq, .ref sr, .ref sgn, .ref pp, .ref mu, .int dsd])), (rw, .inr (6, [.ref rwe, .int (nI n)])), (rwe, .inl (γ.2 0, 12, .inl (fun j => nI (f j))))] sz))
      (vx_X (S := Unit) (fun _ => True) (fun E _ t => E = jEX ∧ va_P γ.1 vwCl [(ns, .inr (10, [.ref tp, .ref rd, .ref gr, .ref rw, .ref tr, .ref oo, .ref pa, .ref iq, .ref sr, .ref sgn, .ref pp, .ref mu, .int dsd])), (rw, .inr (6, [.ref rwe, .int (nI n)])), (rwe, .inl (γ.2 0, 12, .inl (fun j => nI (f j))))] t.heap ∧ va_D (va_A [(ns, .inr (10, [.ref tp, .ref rd, .ref gr, .ref rw, .ref tr, .ref oo, .ref pa, .ref iq, .ref sr, .ref sgn, .ref pp, .ref mu, .int dsd])), (rw, .inr (6, [.ref rwe, .int (nI n)])), (rwe, .inl (γ.2 0, 12, .inl (fun j => nI (f j))))] sz) [(ns, .inr (10, [.ref tp, .ref rd, .ref gr, .ref rw, .ref tr, .ref oo, .ref pa, .ref iq, .ref sr, .ref sgn, .ref pp, .ref mu, .int dsd])), (rw, .inr (6, [.ref rwe, .int (nI n)])), (rwe, .inl (γ.2 0, 12, .inl (fun j => nI (f j))))]) (va_A [(ns, .inr (10, [.ref tp, .ref rd, .ref gr, .ref rw, .ref tr, .ref oo, .ref pa, .ref iq, .ref sr, .ref sgn, .ref pp, .ref mu, .int dsd])), (rw, .inr (6, [.ref rwe, .int (nI n)])), (rwe, .inl (γ.2 0, 12, .inl (fun j => nI (f j))))] sz)) 1 6 (va_A [(ns, .inr (10, [.ref tp, .ref rd, .ref gr, .ref rw, .ref tr, .ref oo, .ref pa, .ref iq, .ref sr, .ref sgn, .ref pp, .ref mu, .int dsd])), (rw, .inr (6, [.ref rwe, .int (nI n)])), (rwe, .inl (γ.2 0, 12, .inl (fun j => nI (f j))))] sz) := by
  refine vx_ofW (cc := cX10_sum) (maxL := 2) (ret := some .int) (by decide) rfl ?_
  intro p e s m args below meth c s₁ B hml hnox hv
  obtain ⟨rfl, ⟨hsz, hP, hK, hD0, hX0⟩, hZ⟩ := hv
  subst hsz
  have hts := atoms_spec (ws := jw yX10_sum cX10_sum 2 (some .int)) B.pre
  obtain ⟨x, hx⟩ : ∃ x : jE, x = (p, e, ({ frames := 6, cells := 1, slots := 6, locals := 130 } : Room), s, m, ([.ref ns, .int i] : List Value).toArray, below, meth, c, va_A [(ns, .inr (10, [.ref tp, .ref rd, .ref gr, .ref rw, .ref tr, .ref oo, .ref pa, .ref iq, .ref sr, .ref sgn, .ref pp, .ref mu, .int dsd])), (rw, .inr (6, [.ref rwe, .int (nI n)])), (rwe, .inl (γ.2 0, 12, .inl (fun j => nI (f j))))] s.heap.size, 2, vx_MQ below (va_Qi (S := Unit) (fun _ _ => False) (fun _ _ => True) (va_A [(ns, .inr (10, [.ref tp, .ref rd, .ref gr, .ref rw, .ref tr, .ref oo, .ref pa, .ref iq, .ref sr, .ref sgn, .ref pp, .ref mu, .int dsd])), (rw, .inr (6, [.ref rwe, .int (nI n)])), (rwe, .inl (γ.2 0, 12, .inl (fun j => nI (f j))))] s.heap.size)) (vx_X (S := Unit) (fun _ => True) (fun E _ t => E = jEX ∧ va_P γ.1 vwCl [(ns, .inr (10, [.ref tp, .ref rd, .ref gr, .ref rw, .ref tr, .ref oo, .ref pa, .ref iq, .ref sr, .ref sgn, .ref pp, .ref mu, .int dsd])), (rw, .inr (6, [.ref rwe, .int (nI n)])), (rwe, .inl (γ.2 0, 12, .inl (fun j => nI (f j))))] t.heap ∧ va_D (va_A [(ns, .inr (10, [.ref tp, .ref rd, .ref gr, .ref rw, .ref tr, .ref oo, .ref pa, .ref iq, .ref sr, .ref sgn, .ref pp, .ref mu, .int dsd])), (rw, .inr (6, [.ref rwe, .int (nI n)])), (rwe, .inl (γ.2 0, 12, .inl (fun j => nI (f j))))] s.heap.size) [(ns, .inr (10, [.ref tp, .ref rd, .ref gr, .ref rw, .ref tr, .ref oo, .ref pa, .ref iq, .ref sr, .ref sgn, .ref pp, .ref mu, .int dsd])), (rw, .inr (6, [.ref rwe, .int (nI n)])), (rwe, .inl (γ.2 0, 12, .inl (fun j => nI (f j))))]) (va_A [(ns, .inr (10, [.ref tp, .ref rd, .ref gr, .ref rw, .ref tr, .ref oo, .ref pa, .ref iq, .ref sr, .ref sgn, .ref pp, .ref mu, .int dsd])), (rw, .inr (6, [.ref rwe, .int (nI n)])), (rwe, .inl (γ.2 0, 12, .inl (fun j => nI (f j))))] s.heap.size)) ([.ref ns, .int i] : List Value).toArray s 1 6 (va_A [(ns, .inr (10, [.ref tp, .ref rd, .ref gr, .ref rw, .ref tr, .ref oo, .ref pa, .ref iq, .ref sr, .ref sgn, .ref pp, .ref mu, .int dsd])), (rw, .inr (6, [.ref rwe, .int (nI n)])), (rwe, .inl (γ.2 0, 12, .inl (fun j => nI (f j))))] s.heap.size)) := ⟨_, rfl⟩
  have g : jG γ x ({ frames := 6, cells := 1, slots := 6, locals := 130 } : Room) cX10_sum RX10 (some .int) := by
    subst hx
    exact ⟨B.exec, B.bytes, hml, findClass_of_methodNamed B.named, fun w hw => hts w (List.mem_cons_of_mem _ hw), hK, B.returns, B.notSynchronized, fun q hq => Or.inr hq, rfl, hX0⟩
  have hZx : jZ (jA x) (jS x) (jS x).heap := by subst hx; exact hZ
  have hthrow : J γ l x [(ns, .inr (10, [.ref tp, .ref rd, .ref gr, .ref rw, .ref tr, .ref oo, .ref pa, .ref iq, .ref sr, .ref sgn, .ref pp, .ref mu, .int dsd])), (rw, .inr (6, [.ref rwe, .int (nI n)])), (rwe, .inl (γ.2 0, 12, .inl (fun j => nI (f j))))] [some (.ref ns), some (.int i)] [] 0 0 16 := by
    intro H locs ls hP1 hD1 hS1 hl
    have hU := hZx.1
    have hN := hZx.2.1
    have hat := jEW_at g hZx.2.2
    have hok := g.2.2.2.2.1
    have hstr := g.2.2.2.2.2.2.2.2.2.2.2.2.2.1 3 _ rfl
    have hrr := g.2.2.2.2.2.2.2.2.2.1
    subst hx
    refine jx_throwS g.1 g.2.1 hfl (ik := 166) (is := 168) (ic := 170) (ix := 13) (rx := prog_26_method_4_code) (Yn := "java/lang/RuntimeException") (r := ["java/lang/Exception"]) (cls := jEX) (own := RX10) (A := va_A [(ns, .inr (10, [.ref tp, .ref rd, .ref gr, .ref rw, .ref tr, .ref oo, .ref pa, .ref iq, .ref sr, .ref sgn, .ref pp, .ref mu, .int dsd])), (rw, .inr (6, [.ref rwe, .int (nI n)])), (rwe, .inl (γ.2 0, 12, .inl (fun j => nI (f j))))] s.heap.size) (by decide +kernel) (by decide +kernel) (by decide +kernel) (by decide +kernel) g.2.2.2.1 (by decide +kernel) (by decide +kernel) (hok _ jcl_X10_166) (hok _ jini_EX) hstr hat ?_ hU hN hS1 (by rw [g.2.2.1]; exact hl.2.1) dX10_sum_16 dX10_sum_19 dX10_sum_20 dX10_sum_22 dX10_sum_25 (fun z hz => (hnox z hz).elim) (by show 1 + 1 + 3 < 6; decide) (by show 0 + (13 * (1 + 1 + 1) + 43) ≤ 130; decide) (Nat.le_of_ble_eq_true rfl) (Nat.le_of_ble_eq_true rfl) g.2.2.2.2.2.2.2.1 ?_ hS1.2.2 (Nat.le_of_ble_eq_true rfl) (Nat.le_of_ble_eq_true rfl)
    · intro w hw
      rcases List.mem_cons.mp hw with rfl | hw
      · decide +kernel
      · rcases List.mem_cons.mp hw with rfl | hw
        · decide +kernel
        · exact List.all_eq_true.mp jEW_ot w hw
    · intro t hal hsz hk
      exact ⟨(), trivial, ⟨rfl, hP1.kept (fun k q hq => hk q.1 ((hP1 k q hq).lt)), hD1⟩, Nat.le_trans hS1.1 hsz, fun q h1 h2 => (hk q (Nat.lt_of_lt_of_le h1 hS1.1)).trans (hS1.2.1 q h1 h2)⟩
  have k : J γ l x [(ns, .inr (10, [.ref tp, .ref rd, .ref gr, .ref rw, .ref tr, .ref oo, .ref pa, .ref iq, .ref sr, .ref sgn, .ref pp, .ref mu, .int dsd])), (rw, .inr (6, [.ref rwe, .int (nI n)])), (rwe, .inl (γ.2 0, 12, .inl (fun j => nI (f j))))] [some (.ref ns), some (.int i)] [] 0 0 0 := by
    refine J.iload_n g dX10_sum_0 rfl rfl ?_
    refine J.iconstN g 1 dX10_sum_1 ?_
    refine J.icmp_lt g dX10_sum_2 (tgt := 16) (by decide) (fun c_2 => ?_) (fun c_2 => ?_)
    · exact hthrow
    · refine J.iload_n g dX10_sum_5 rfl rfl ?_
      refine J.aload_n g dX10_sum_6 rfl rfl ?_
      refine J.get g jX10 3 (by decide) lf_X10_33 0 rfl rfl dX10_sum_7 ?_
      refine J.callV0 g (c_X6_wholeSet l γ _ _ _ _ hn) jy_X6_wholeSet lm_X10_163 (q0 := 1) rfl jX6.1 ⟨⟨Nat.le_of_ble_eq_true rfl, Nat.le_of_ble_eq_true rfl⟩, Nat.le_of_ble_eq_true rfl, Nat.le_of_ble_eq_true rfl⟩ (Nat.le_of_ble_eq_true rfl) rfl [1, 2] rfl rfl dX10_sum_10 ?_
      intro _ _
      dsimp only [jpush]
      refine J.icmp_le g dX10_sum_13 (tgt := 26) (by decide) (fun c_13 => (by rw [show mIn i (nI 1) (nI (2 ^ n - 1)) = true from decide_eq_true ⟨Int32.le_iff_toInt_le.mp (Int32.not_lt.mp c_2), Int32.le_iff_toInt_le.mp c_13⟩] at hi; cases hi)) (fun c_13 => ?_)
      exact hthrow
  subst hx
  rw [lg_entry_eq]
  exact k s.heap [] _ hP hD0.self va_S.rf (lvx_entry [.ref ns, .int i] (n := 2) (Nat.le_of_ble_eq_true rfl))
def hL_sum : List (Nat × Nat × Nat × Nat) := [(0, 9, 12, 13)]
theorem jyw_L_sum : Cond.codeWith yL_sum cL_sum 4 (some .int) hL_sum ∈ jTT := jin 946 (by decide +kernel) rfl
theorem jys_L_sum : Cond.static yL_sum ∈ jTT := jin 945 (by decide +kernel) rfl
theorem jyl_L_sum : Cond.methodLink RL 55 yL_sum ∈ jTT := jin 944 (by decide +kernel) rfl
/-- a contract of a method with a table of its own -/
def jMZ {S : Type} (l : Launch) (γ : jγ) (y : MethodName) (b : ByteArray) (n : Nat) (r : Option FieldType) (hh : List (Nat × Nat × Nat × Nat)) (rm : Room) (As : List Value) (ws0 : va_W) (rt : S → Option Value) (ws1 : S → va_W) (post : S → Prop) : Prop :=
  ∀ sz : Nat, Met l y (.codeWith y b n r hh :: jTT) rm (va_Pc As (fun U => jPre γ ws0 sz U ∧ jZ (va_A ws0 sz) U U.heap)) (jQc γ ws0 sz rt ws1 post) rm.cells rm.slots (va_A ws0 sz)
theorem jMZ.of {S : Type} {l : Launch} {γ : jγ} {y : MethodName} {b : ByteArray} {n : Nat} {r : Option FieldType} {hh : List (Nat × Nat × Nat × Nat)} {rm : Room} {As : List Value} {ws0 : va_W} {rt : S → Option Value} {ws1 : S → va_W} {post : S → Prop} (lv0 : List (Option Value)) (hlv : lvs As n = lv0) (hn : (lve As).length ≤ n) (hy : plainName y.cls = true)
    (h : ∀ x : jE, jG γ x rm b y.cls r → jE0 γ x ws0 rt ws1 post rm.cells rm.slots → jZ (jA x) (jS x) (jS x).heap → (jcd x).exceptionTable.toList = tableOf hh → J γ l x ws0 lv0 [] 0 0 0) : jMZ l γ y b n r hh rm As ws0 rt ws1 post := by
  intro sz
  refine va_MetW (cc := b) (maxL := n) (ret := r) (hh := hh) hy rfl ?_
  intro p e s m args below meth c s₁ B hml hv
  obtain ⟨rfl, ⟨hsz, hP, hK, hD0, hX0⟩, hZ⟩ := hv
  subst hsz
  have hts := atoms_spec (ws := .codeWith y b n r hh :: jTT) B.pre
  have k := h (p, e, (headSpec (.codeWith y b n r hh :: jTT) rm).room, s, m, As.toArray, below, meth, c, va_A ws0 s.heap.size, n, MQ below (jQc γ ws0 s.heap.size rt ws1 post) As.toArray s rm.cells rm.slots (va_A ws0 s.heap.size))
    ⟨B.exec, B.bytes, hml, findClass_of_methodNamed B.named, fun w hw => hts w (List.mem_cons_of_mem _ hw), hK, B.returns, B.notSynchronized, fun q hq => Or.inr hq, rfl, hX0⟩ ⟨rfl, rfl⟩ hZ (vx_table (x := y) B (hts _ List.mem_cons_self))
    s.heap [] _ hP hD0.self va_S.rf (by rw [← hlv]; exact lvx_entry As hn)
  rw [lg_entry_eq]
  exact k
theorem GoodIn_jz {own : String} {ix : Nat} {y : MethodName} {b : ByteArray} {n : Nat} {r : Option FieldType} {hh : List (Nat × Nat × Nat × Nat)} (h1 : Cond.methodLink own ix y ∈ jTT) (h2 : Cond.static y ∈ jTT) (h3 : Cond.initialized y.cls ∈ jTT) (h4 : Cond.codeWith y b n r hh ∈ jTT) : GoodIn jTT (va_wsS own ix y (.codeWith y b n r hh :: jTT)) := by
  have key : ∀ w ∈ va_wsS own ix y (.codeWith y b n r hh :: jTT), w ∈ jTT := by
    intro w hw
    unfold va_wsS at hw
    simp only [List.cons_append, List.nil_append, List.mem_cons] at hw
    rcases hw with rfl | rfl | rfl | rfl | hw
    · exact h1
    · exact h2
    · exact h3
    · exact h4
    · exact hw
  exact fun w hw => ⟨key w hw, jTT_good (key w hw)⟩
section
variable {γ : jγ} {l : Launch} {x : jE} {ws : va_W} {lv : List (Option Value)} {st : List Value} {cs sl pc : Nat}
variable {rm : Room} {cc : ByteArray} {own : String} {ret : Option FieldType}
theorem J.callZ {S : Type} {y : MethodName} {b : ByteArray} {nl ix : Nat} {r : Option FieldType} {hh : List (Nat × Nat × Nat × Nat)} {r2 : Room} {As rest : List Value} {wc : va_W} {rt : S → Option Value} {ws1 : S → va_W} {post : S → Prop} (g : jG γ x rm cc own ret) (hz : jZ (jA x) (jS x) (jS x).heap) (hM : jMZ l γ y b nl r hh r2 As wc rt ws1 post) (hw : Cond.methodLink own ix y ∈ jTT) (h2 : Cond.static y ∈ jTT) (h3 : Cond.initialized y.cls ∈ jTT) (h4 : Cond.codeWith y b nl r hh ∈ jTT) (h5 : y.cls ≠ "java/lang/invoke/MethodHandle" ∧ y.cls ≠ "java/lang/invoke/VarHandle" ∧ (parseMethodDescriptor y.desc).map (fun d => d.parameters.length) = some As.length) (hR : (r2.frames + 1 ≤ rm.frames ∧ 8 + (nl + 11) + r2.locals ≤ rm.locals) ∧ cs + r2.cells ≤ rm.cells ∧ sl + r2.slots ≤ rm.slots) (hrest : (rest.map fun v => v.category).sum ≤ 8) (hst : st = As.reverse ++ rest) (is : List Nat) (hC : is.map (fun i => ws[i]?) = wc.map some) (ha : ∀ u : S, ((ws1 u).take wc.length).map Prod.fst = wc.map Prod.fst) (hnd : va_nd is = true) (hd : decode cc pc = .ok (.invokestatic ix, 3)) (kk : ∀ u : S, post u → J γ l x (jput ws is (ws1 u)) lv ((rt u).toList ++ rest) (cs + r2.cells) (sl + r2.slots) (pc + 3)) : J γ l x ws lv st cs sl pc := by
  have ok : ∀ w ∈ jTT, w.before (ja x) (jS x) = true := g.2.2.2.2.1
  refine j_after g (As := As) (r2 := r2) (wc := wc) (rt := rt) (ws1 := ws1) (post := post) (rest := rest) (fun H locs ls hP hD hS hl0 => ?_) is hC ha kk
  have hDc : va_D (fun _ => True) wc := (hD.sub is hnd hC).weaken (fun _ _ _ _ => trivial)
  have hF := va_free hD hS g.2.2.2.2.2.2.2.2.1 is hC
  have hpre : ∀ U : State, U.heap = H → (jS x).WarmedH U.vm → va_Pc As (fun U => jPre γ wc H.size U ∧ jZ (va_A wc H.size) U U.heap) (As : List Value).toArray U := fun U hU hW => ⟨rfl, ⟨by rw [hU], by rw [hU]; exact jsub hP is hC, va_K.moved hW.alike g.2.2.2.2.2.1, hDc, by rw [hU]; exact ((g.2.2.2.2.2.2.2.2.2.2.kept (H1 := H) hS.2.1).narrow hF).warm hW⟩, by rw [hU]; exact ((hz.kept (H1 := H) hS.2.1).narrow hF).warm hW⟩
  exact vx_runSW (As := As) (rest := rest) ⟨g.1, g.2.1, g.2.2.1, g.2.2.2.1, g.2.2.2.2.1⟩ (hM H.size) (vx_cwSW As.length ok (GoodIn_jz hw h2 h3 h4) rfl rfl rfl h5 (by rw [g.2.2.2.2.2.2.2.2.2.1]; exact hR.1)) ⟨jZFB γ _ _ _, hpre⟩ rfl rfl hl0.2.1 hst (lv_room hrest) hd (by rw [g.2.2.2.2.2.2.2.2.2.1]; exact hR.2)
end
set_option maxHeartbeats 4000000 in
set_option maxRecDepth 100000 in
theorem cz_L_sum_yes (l : Launch) (γ : jγ) (ns tp rd gr rw tr oo pa iq sr sgn pp mu : Nat) (dsd : Int32) (rwe n : Nat) (f : Nat → Nat) (mk ag cd pt od ex : Nat) (mf af : Nat → Nat) (oo9 : Nat) (of9 : Nat → Int64) (s : Nat) (hn : n ≤ 12) (hT : jtab od mf af) (hf : ∀ j, j < n → f j < 24) (hs : 1 ≤ s ∧ s ≤ 2 ^ n - 1) : jMZ (S := Unit) l γ yL_sum cL_sum 4 (some .int) hL_sum ({ frames := 8, cells := 1, slots := 6, locals := 200 } : Room) [.ref ns, .int (nI s), .ref oo9] [(ns, .inr (10, [.ref tp, .ref rd, .ref gr, .ref rw, .ref tr, .ref oo, .ref pa, .ref iq, .ref sr, .ref sgn, .ref pp, .ref mu, .int dsd])), (rw, .inr (6, [.ref rwe, .int (nI n)])), (rwe, .inl (γ.2 0, 12, .inl (fun j => nI (f j)))), (gr, .inr (0, [.ref mk, .ref ag, .int (nI cd), .int (nI pt), .int (nI od), .int (nI ex)])), (mk, .inl (γ.2 1, 576, .inl (fun j => nI (mf j)))), (ag, .inl (γ.2 1, 24, .inl (fun j => nI (af j)))), (oo9, .inl (γ.2 3, 1, .inr (.inl of9)))] (fun _ => some (.int (nI 0))) (fun _ => [(ns, .inr (10, [.ref tp, .ref rd, .ref gr, .ref rw, .ref tr, .ref oo, .ref pa, .ref iq, .ref sr, .ref sgn, .ref pp, .ref mu, .int dsd])), (rw, .inr (6, [.ref rwe, .int (nI n)])), (rwe, .inl (γ.2 0, 12, .inl (fun j => nI (f j)))), (gr, .inr (0, [.ref mk, .ref ag, .int (nI cd), .int (nI pt), .int (nI od), .int (nI ex)])), (mk, .inl (γ.2 1, 576, .inl (fun j => nI (mf j)))), (ag, .inl (γ.2 1, 24, .inl (fun j => nI (af j)))), (oo9, .inl (γ.2 3, 1, .inr (.inl (vp_updL of9 0 (nI (jsum od mf f s n)).toInt64))))]) (fun _ => True) := by
  refine jMZ.of [some (.ref ns), some (.int (nI s)), some (.ref oo9), none] rfl (Nat.le_of_ble_eq_true rfl) (by decide) ?_
  intro x g hE hz htab
  refine J.aload_n g dL_sum_0 rfl rfl ?_
  refine J.iconstN g 0 dL_sum_1 ?_
  refine J.aload_n g dL_sum_2 rfl rfl ?_
  refine J.iload_n g dL_sum_3 rfl rfl ?_
  refine J.callV0 g (c_X10_sum_yes l γ _ _ _ _ _ _ _ _ _ _ _ _ _ _ _ _ _ _ _ _ _ _ _ _ _ _ hn hT hf hs) jy_X10_sum lm_L_7 (q0 := 0) rfl jX10.1 ⟨⟨Nat.le_of_ble_eq_true rfl, Nat.le_of_ble_eq_true rfl⟩, Nat.le_of_ble_eq_true rfl, Nat.le_of_ble_eq_true rfl⟩ (Nat.le_of_ble_eq_true rfl) rfl [0, 1, 2, 3, 4, 5] rfl rfl dL_sum_4 ?_
  intro _ _
  dsimp only [jpush]
  refine J.i2l g dL_sum_7 rfl ?_
  refine J.last g 6 rfl (k := 0) (by decide) (by decide) dL_sum_8 ?_
  try dsimp only [List.set_cons_zero, List.set_cons_succ]
  refine J.goto g dL_sum_9 (tgt := 15) (by decide) ?_
  refine J.iconstN g 0 dL_sum_15 ?_
  exact J.iret g hE () rfl trivial rfl ⟨Nat.le_of_ble_eq_true rfl, Nat.le_of_ble_eq_true rfl⟩ dL_sum_16
set_option maxHeartbeats 4000000 in
set_option maxRecDepth 100000 in
theorem cz_L_sum_no (l : Launch) (hfl : l.stackTraces = false) (γ : jγ) (ns tp rd gr rw tr oo pa iq sr sgn pp mu : Nat) (dsd : Int32) (rwe n : Nat) (f : Nat → Nat) (mk ag cd pt od ex : Nat) (mf af : Nat → Nat) (oo9 : Nat) (of9 : Nat → Int64) (i : Int32) (hn : n ≤ 12) (hi : mIn i (nI 1) (nI (2 ^ n - 1)) = false) : jMZ (S := Unit) l γ yL_sum cL_sum 4 (some .int) hL_sum ({ frames := 8, cells := 1, slots := 6, locals := 200 } : Room) [.ref ns, .int i, .ref oo9] [(ns, .inr (10, [.ref tp, .ref rd, .ref gr, .ref rw, .ref tr, .ref oo, .ref pa, .ref iq, .ref sr, .ref sgn, .ref pp, .ref mu, .int dsd])), (rw, .inr (6, [.ref rwe, .int (nI n)])), (rwe, .inl (γ.2 0, 12, .inl (fun j => nI (f j)))), (gr, .inr (0, [.ref mk, .ref ag, .int (nI cd), .int (nI pt), .int (nI od), .int (nI ex)])), (mk, .inl (γ.2 1, 576, .inl (fun j => nI (mf j)))), (ag, .inl (γ.2 1, 24, .inl (fun j => nI (af j)))), (oo9, .inl (γ.2 3, 1, .inr (.inl of9)))] (fun _ => some (.int (nI 1))) (fun _ => [(ns, .inr (10, [.ref tp, .ref rd, .ref gr, .ref rw, .ref tr, .ref oo, .ref pa, .ref iq, .ref sr, .ref sgn, .ref pp, .ref mu, .int dsd])), (rw, .inr (6, [.ref rwe, .int (nI n)])), (rwe, .inl (γ.2 0, 12, .inl (fun j => nI (f j)))), (gr, .inr (0, [.ref mk, .ref ag, .int (nI cd), .int (nI pt), .int (nI od), .int (nI ex)])), (mk, .inl (γ.2 1, 576, .inl (fun j => nI (mf j)))), (ag, .inl (γ.2 1, 24, .inl (fun j => nI (af j)))), (oo9, .inl (γ.2 3, 1, .inr (.inl of9)))]) (fun _ => True) := by
  refine jMZ.of [some (.ref ns), some (.int i), some (.ref oo9), none] rfl (Nat.le_of_ble_eq_true rfl) (by decide) ?_
  intro x g hE hz htab
  have hcall : J γ l x [(ns, .inr (10, [.ref tp, .ref rd, .ref gr, .ref rw, .ref tr, .ref oo, .ref pa, .ref iq, .ref sr, .ref sgn, .ref pp, .ref mu, .int dsd])), (rw, .inr (6, [.ref rwe, .int (nI n)])), (rwe, .inl (γ.2 0, 12, .inl (fun j => nI (f j)))), (gr, .inr (0, [.ref mk, .ref ag, .int (nI cd), .int (nI pt), .int (nI od), .int (nI ex)])), (mk, .inl (γ.2 1, 576, .inl (fun j => nI (mf j)))), (ag, .inl (γ.2 1, 24, .inl (fun j => nI (af j)))), (oo9, .inl (γ.2 3, 1, .inr (.inl of9)))] [some (.ref ns), some (.int i), some (.ref oo9), none] [.int i, .ref ns, .int (nI 0), .ref oo9] 0 0 4 := by
    intro H locs ls hP hD hS hl0
    have ok : ∀ w ∈ jTT, w.before (ja x) (jS x) = true := g.2.2.2.2.1
    have hC : [0, 1, 2].map (fun i => ([(ns, .inr (10, [.ref tp, .ref rd, .ref gr, .ref rw, .ref tr, .ref oo, .ref pa, .ref iq, .ref sr, .ref sgn, .ref pp, .ref mu, .int dsd])), (rw, .inr (6, [.ref rwe, .int (nI n)])), (rwe, .inl (γ.2 0, 12, .inl (fun j => nI (f j)))), (gr, .inr (0, [.ref mk, .ref ag, .int (nI cd), .int (nI pt), .int (nI od), .int (nI ex)])), (mk, .inl (γ.2 1, 576, .inl (fun j => nI (mf j)))), (ag, .inl (γ.2 1, 24, .inl (fun j => nI (af j)))), (oo9, .inl (γ.2 3, 1, .inr (.inl of9)))] : va_W)[i]?) = ([(ns, .inr (10, [.ref tp, .ref rd, .ref gr, .ref rw, .ref tr, .ref oo, .ref pa, .ref iq, .ref sr, .ref sgn, .ref pp, .ref mu, .int dsd])), (rw, .inr (6, [.ref rwe, .int (nI n)])), (rwe, .inl (γ.2 0, 12, .inl (fun j => nI (f j))))] : va_W).map some := rfl
    have hDc : va_D (fun _ => True) [(ns, .inr (10, [.ref tp, .ref rd, .ref gr, .ref rw, .ref tr, .ref oo, .ref pa, .ref iq, .ref sr, .ref sgn, .ref pp, .ref mu, .int dsd])), (rw, .inr (6, [.ref rwe, .int (nI n)])), (rwe, .inl (γ.2 0, 12, .inl (fun j => nI (f j))))] := (hD.sub [0, 1, 2] rfl hC).weaken (fun _ _ _ _ => trivial)
    have hF := va_free hD hS g.2.2.2.2.2.2.2.2.1 [0, 1, 2] hC
    have hpre : ∀ U : State, U.heap = H → (jS x).WarmedH U.vm → va_Pc [.ref ns, .int i] (fun U => jPre γ [(ns, .inr (10, [.ref tp, .ref rd, .ref gr, .ref rw, .ref tr, .ref oo, .ref pa, .ref iq, .ref sr, .ref sgn, .ref pp, .ref mu, .int dsd])), (rw, .inr (6, [.ref rwe, .int (nI n)])), (rwe, .inl (γ.2 0, 12, .inl (fun j => nI (f j))))] H.size U ∧ jZ (va_A [(ns, .inr (10, [.ref tp, .ref rd, .ref gr, .ref rw, .ref tr, .ref oo, .ref pa, .ref iq, .ref sr, .ref sgn, .ref pp, .ref mu, .int dsd])), (rw, .inr (6, [.ref rwe, .int (nI n)])), (rwe, .inl (γ.2 0, 12, .inl (fun j => nI (f j))))] H.size) U U.heap) ([.ref ns, .int i] : List Value).toArray U := fun U hU hW => ⟨rfl, ⟨by rw [hU], by rw [hU]; exact jsub hP [0, 1, 2] hC, va_K.moved hW.alike g.2.2.2.2.2.1, hDc, by rw [hU]; exact ((g.2.2.2.2.2.2.2.2.2.2.kept (H1 := H) hS.2.1).narrow hF).warm hW⟩, by rw [hU]; exact ((hz.kept (H1 := H) hS.2.1).narrow hF).warm hW⟩
    have cb := j_callB (r2 := { frames := 6, cells := 1, slots := 6, locals := 130 }) g jy_X10_sum.1 jy_X10_sum.2.1 lm_L_7 ⟨Nat.le_of_ble_eq_true rfl, Nat.le_of_ble_eq_true rfl⟩
    have hr := vx_runV (e := je x) (below := jb x) (meth := jmt x) (H := H) (locs := locs) (cells := 0) (slots := 0) (As := [.int i]) (rest := [.int (nI 0), .ref oo9]) (g := F0 (jm x) 4 ls [.int i, .ref ns, .int (nI 0), .ref oo9]) ⟨g.1, g.2.1, g.2.2.1, g.2.2.2.1, g.2.2.2.2.1⟩ (cx_X10_sum l hfl γ ns tp rd gr rw tr oo pa iq sr sgn pp mu dsd rwe n f i hn hi H.size) ⟨cb, ok _ jy_X10_sum.2.2.1, ok _ jy_X10_sum.2.2.2⟩ ⟨jZFB γ _ _ _, va_recv g.2.2.2.2.2.1 hP jX10.1 (q0 := 0) rfl, hpre⟩ rfl rfl hl0.2.1 rfl (lv_room (Nat.le_of_ble_eq_true rfl)) dL_sum_4 (by rw [g.2.2.2.2.2.2.2.2.2.1]; exact ⟨Nat.le_of_ble_eq_true rfl, Nat.le_of_ble_eq_true rfl⟩)
    refine vx_calli hr hS (fun q _ h => hF q h) (fun q h => hF q h) (fun q _ h => hF q h) ?_ (fun r u t H1 locs1 _ _ h => h.elim)
    intro E ce q9 u t H1 locs1 ht hal _ hBX hsz hk hS1 hce hcv hcl
    obtain ⟨rfl, hP1, hD1⟩ := hBX
    rw [ht] at hP1
    have hj := jput_join hP hD [0, 1, 2] hC rfl hk hF hP1 hD1
    rw [jput_same [0, 1, 2] _ _ hC] at hj
    refine vx_catch (own := RL) (name := jEX) g.2.2.2.1 [] _ [] htab (fun z hz => nomatch hz) (by decide) (by decide) (ok _ jcl_L_13) (va_Nw.use rfl (hz.2.2 (.castable jEX jEX) (by simp [jEB]))) hce hcv hcl ?_
    have k12 : J γ l x [(ns, .inr (10, [.ref tp, .ref rd, .ref gr, .ref rw, .ref tr, .ref oo, .ref pa, .ref iq, .ref sr, .ref sgn, .ref pp, .ref mu, .int dsd])), (rw, .inr (6, [.ref rwe, .int (nI n)])), (rwe, .inl (γ.2 0, 12, .inl (fun j => nI (f j)))), (gr, .inr (0, [.ref mk, .ref ag, .int (nI cd), .int (nI pt), .int (nI od), .int (nI ex)])), (mk, .inl (γ.2 1, 576, .inl (fun j => nI (mf j)))), (ag, .inl (γ.2 1, 24, .inl (fun j => nI (af j)))), (oo9, .inl (γ.2 3, 1, .inr (.inl of9)))] [some (.ref ns), some (.int i), some (.ref oo9), none] [.ref q9] (0 + 1) (0 + 6) 12 := by
        refine J.astore_n g dL_sum_12 rfl rfl rfl ?_
        try dsimp only [List.set_cons_zero, List.set_cons_succ]
        refine J.iconstN g 1 dL_sum_13 ?_
        exact J.iret g hE () rfl trivial rfl ⟨Nat.le_of_ble_eq_true rfl, Nat.le_of_ble_eq_true rfl⟩ dL_sum_14
    exact k12 H1 locs1 ls hj.1 hj.2 hS1 hl0
  refine J.aload_n g dL_sum_0 rfl rfl ?_
  refine J.iconstN g 0 dL_sum_1 ?_
  refine J.aload_n g dL_sum_2 rfl rfl ?_
  refine J.iload_n g dL_sum_3 rfl rfl ?_
  exact hcall

