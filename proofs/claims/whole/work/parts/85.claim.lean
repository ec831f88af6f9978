/-! THE CLAIM OUT OF ONE WALK OF THE LAW'S BODY. Your part is whole_start (and what it stands on); all else here is the same for every law, but numbers. -/
def R_law : String := "NoughtSumsLaw"
def lw_P (b : Addr) (xs : List Int32) (args : Array Value) (s : State) : Prop := args = #[.ref b] ∧ s.IntsAt b xs ∧ xs.length ≤ 3072 ∧ (Jvm.Cond.and given_1 narrow_1).before args s = true
def lw_Q (_ : Array Value) (s : State) (o : Outcome) (t : State) : Prop := o = .returned (some (.int 1)) ∧ Framed s o t [] 601024 7293034
def lw_Z (below : List Frame) (a : Array Value) (s : State) : State → Prop := fun t => ∃ o, t.status = .running ∧ Ended t below o ∧ lw_Q a s o t
/-- the law's own end, with 1 on the stack, nothing written that was there before, its room as the claim has it -/
theorem lw_ret {p : Program} {l : Launch} {e : Env} {s : State} {m : MethodId} {below : List Frame} {meth : Method} {c : Code} {b : Nat} (hx : p.tables.exec = Jvm.exec) (hb : c.code = code) (hr : meth.sig.returnType = ret) (hlocks : meth.locks = false) {pc : Nat} {H : Heap} {ls : Array Slot} (hdg : decode code pc = .ok (.ireturn, 1)) : W p l e room_1 s m #[Value.ref b] below meth c H [] 601024 7293034 (lw_Z below #[Value.ref b] s) (F0 m pc ls [.int 1]) := by
  intro T hT X
  obtain ⟨fs, hret, hrun, hended, hW, hframe⟩ := X.leave (v := some (.int 1)) (hlocks := hlocks) (fun h => by rw [hr] at h; cases h)
  have hmeth' : T.vm.method? m = some meth := X.method'
  refine ⟨T.setFrames fs, ?_, .returned (some (.int 1)), hrun, hended, rfl, ⟨_, rfl⟩, hW, hframe⟩
  jvm_step X.here [X.here.top, hx, hb, hdg, hmeth', hr, ret, narrow_b1]
  (try refine ⟨rfl, ?_⟩); (try refine ⟨rfl, ?_⟩)
  first | (intro acts; rw [hret _ acts rfl rfl rfl]) | rw [hret _ _ rfl rfl rfl]
  exact Steps.refl _
/-- what holds at the law's entry: the machine, the code, the tables' words (any of lw_tbl by 'hts w (by decide +kernel)'), the script of L ints xs at the cell b, what the Statement gives of the start (any of its parts by flat_of_before) -/
def lw_At (p : Program) (s : State) (m : MethodId) (meth : Method) (c : Code) (b L : Nat) (xs : Nat → Int32) : Prop :=
  p.tables.exec = Jvm.exec ∧ c.code = code ∧ meth.sig.returnType = ret ∧ c.maxLocals = 7 ∧ s.vm.findClass R_law = some m.cls ∧ (∀ w ∈ lw_tbl, w.before #[Value.ref b] s = true) ∧ va_X b L xs s s.heap ∧ b < s.heap.size ∧ meth.locks = false ∧ (Jvm.Cond.and given_1 narrow_1).before #[Value.ref b] s = true
theorem lR_0 : lR 0 (fun _ => 0) ((0, 0, 0, 0), (0, 0), (0, 0, -1), (0, fun _ => 0)) 0 0 0 0 (fun _ => 0) (fun _ => 0) 0 (fun _ => 0) 0 0 (fun _ => 0) (fun _ _ => 0) (fun _ => 0) (fun _ => 0) (fun _ => false) (fun _ _ => 0) 0 0 (fun _ => 0) (fun _ => 0) (fun _ => 0) 0 (fun _ => 0) 0 (fun _ => 0) 0 (fun _ => 0) (-1) 0 0 0 (fun _ => 0) (fun _ => 0) (fun _ => 0) (fun _ => 0) (fun _ => false) := by
  have hcd : (0 : Nat) ∈ jcodes := by decide +kernel
  refine ⟨⟨Nat.zero_le _, ?_, rfl⟩, ⟨⟨⟨Nat.zero_le _, by decide, Nat.zero_le _, by decide⟩, ⟨by decide, by decide⟩, ⟨by decide, Nat.zero_le _⟩, Nat.zero_le _⟩, rfl, rfl⟩, ⟨hcd, rfl, rfl, rfl, fun a b h => absurd h (Nat.not_lt_zero _), fun a b h => absurd h (Nat.not_lt_zero _)⟩, ⟨hcd, rfl, fun i hi => absurd hi (Nat.not_lt_zero _), rfl, Nat.zero_le _, fun j hj => absurd hj (Nat.not_lt_zero _), fun j hj => absurd hj (Nat.not_lt_zero _)⟩, ⟨by decide, Nat.zero_le _, fun _ _ => Nat.zero_le _, fun j hj => absurd hj (Nat.not_lt_zero _), rfl⟩, ⟨rfl, fun k _ h => by cases h⟩, ⟨by decide, ⟨by decide, Nat.zero_le _, ⟨rfl, rfl⟩, fun _ => ⟨Nat.zero_lt_succ 127, Nat.zero_lt_succ 127⟩, fun _ => Nat.zero_lt_succ 127⟩, fun j hj => absurd hj (Nat.not_lt_zero _), fun h => absurd rfl h⟩, ⟨by decide, fun h => absurd rfl h⟩⟩
  funext k
  show (0 : Nat) = jb8 0
  decide
set_option maxHeartbeats 8000000 in
set_option maxRecDepth 100000 in
theorem whole_start {p : Program} {e : Env} {s : State} {m : MethodId} {below : List Frame} {meth : Method} {c : Code} (l : Launch) (hflags : l.flags = flags0) {b L : Nat} {xs : Nat → Int32} (hL : L ≤ 3072) (C0 : lw_At p s m meth c b L xs) : W p l e room_1 s m #[Value.ref b] below meth c s.heap [] 0 0 (lw_Z below #[Value.ref b] s) (entryFrame m ([Value.ref b] : List Value).toArray 7) := by
  obtain ⟨hx, hb, hr, hml, hown, hts, hX, hbl, hlocks, hgv⟩ := id C0
  have hfl : l.stackTraces = false := by unfold Launch.stackTraces; rw [hflags]; decide
  obtain ⟨γ, hK, hXX, hZ0⟩ := st_facts hts hgv
  obtain ⟨x, hx9⟩ : ∃ x : jE, x = (p, e, ({ frames := 2048, cells := 601024, slots := 7293034, locals := 84000 } : Room), s, m, #[Value.ref b], below, meth, c, (fun q : Nat => s.heap.size ≤ q), 7, lw_Z below #[Value.ref b] s) := ⟨_, rfl⟩
  have g : jG γ x ({ frames := 2048, cells := 601024, slots := 7293034, locals := 84000 } : Room) code RL (some .boolean) := by
    subst hx9
    exact ⟨hx, hb, hml, hown, fun w hw => hts w (jTT_lw hw), hK, hr, hlocks, fun q h => h, rfl, hXX⟩
  have hZ : jZ (jA x) (jS x) (jS x).heap := by subst hx9; exact hZ0
  have hX9 : jScr x b L xs := by subst hx9; exact ⟨hX, hbl, Nat.not_le.mpr hbl⟩
  have hEnd : ∀ (ws : va_W) (lv : List (Option Value)) (cs sl : Nat), cs ≤ 601024 → sl ≤ 7293034 → J γ l x ws lv [] cs sl 1081 := by
    subst hx9
    intro ws lv cs sl hcs hsl H locs ls hP hD hS hl
    refine lv_iconst (v := 1) hx hb dL_law_1081 (by decide) ?_
    refine va_forget hS.2.2 ?_
    refine W.widen hcs hsl ?_
    exact lw_ret hx hb hr hlocks dL_law_1082
  have k0 : J γ l x [] [some (.ref b), none, none, none, none, none, none] [] 0 0 0 := by
    refine J.new g tyX10 dL_law_0 jX10.1 jX10.2.1 jX10.2.2.1 jcl_L_8 jis_X10 jit_X10 (fs := [.null, .null, .null, .null, .null, .null, .null, .null, .null, .null, .null, .null, .int (nI 0)]) (fun j hj => by rcases (show j = 0 ∨ j = 1 ∨ j = 2 ∨ j = 3 ∨ j = 4 ∨ j = 5 ∨ j = 6 ∨ j = 7 ∨ j = 8 ∨ j = 9 ∨ j = 10 ∨ j = 11 ∨ j = 12 by omega) with rfl | rfl | rfl | rfl | rfl | rfl | rfl | rfl | rfl | rfl | rfl | rfl | rfl <;> rfl) (Nat.le_of_ble_eq_true rfl) (Nat.le_of_ble_eq_true rfl) (fun q1 => ?_)
    try dsimp only [List.append, List.cons_append, List.nil_append, List.append_assoc]
    refine J.dup g dL_law_3 rfl ?_
    refine J.callI g (c_X10_init l γ _) jy_X10_init lm_L_15 rfl ⟨⟨Nat.le_of_ble_eq_true rfl, Nat.le_of_ble_eq_true rfl⟩, Nat.le_of_ble_eq_true rfl, Nat.le_of_ble_eq_true rfl⟩ (Nat.le_of_ble_eq_true rfl) rfl [0] rfl (fun _ => rfl) rfl dL_law_4 ?_
    intro v2 hv2
    dsimp only [jput, List.set_cons_zero, List.set_cons_succ, Option.toList, List.append, List.cons_append, List.nil_append, List.append_nil, List.append_assoc]
    refine J.astore_n g dL_law_7 rfl rfl rfl ?_
    try dsimp only [List.set_cons_zero, List.set_cons_succ]
    refine J.new g tyX11 dL_law_8 jX11.1 jX11.2.1 jX11.2.2.1 jcl_L_16 jis_X11 jit_X11 (fs := [.int (nI 0), .null, .int (nI 0), .int (nI 0), .int (nI 0), .int (nI 0), .int (nI 0), .int (nI 0), .int (nI 0), .int (nI 0), .int (nI 0), .int (nI 0), .long 0, .null, .null, .null, .null, .null, .null, .null, .int (nI 0), .null, .null, .null, .null, .null, .null, .null, .null, .null, .null, .null, .int (nI 0), .null, .int (nI 0)]) (fun j hj => by rcases (show j = 0 ∨ j = 1 ∨ j = 2 ∨ j = 3 ∨ j = 4 ∨ j = 5 ∨ j = 6 ∨ j = 7 ∨ j = 8 ∨ j = 9 ∨ j = 10 ∨ j = 11 ∨ j = 12 ∨ j = 13 ∨ j = 14 ∨ j = 15 ∨ j = 16 ∨ j = 17 ∨ j = 18 ∨ j = 19 ∨ j = 20 ∨ j = 21 ∨ j = 22 ∨ j = 23 ∨ j = 24 ∨ j = 25 ∨ j = 26 ∨ j = 27 ∨ j = 28 ∨ j = 29 ∨ j = 30 ∨ j = 31 ∨ j = 32 ∨ j = 33 ∨ j = 34 by omega) with rfl | rfl | rfl | rfl | rfl | rfl | rfl | rfl | rfl | rfl | rfl | rfl | rfl | rfl | rfl | rfl | rfl | rfl | rfl | rfl | rfl | rfl | rfl | rfl | rfl | rfl | rfl | rfl | rfl | rfl | rfl | rfl | rfl | rfl | rfl <;> rfl) (Nat.le_of_ble_eq_true rfl) (Nat.le_of_ble_eq_true rfl) (fun q3 => ?_)
    try dsimp only [List.append, List.cons_append, List.nil_append, List.append_assoc]
    refine J.dup g dL_law_11 rfl ?_
    refine J.callI g (c_X11_init l γ _) jy_X11_init lm_L_18 rfl ⟨⟨Nat.le_of_ble_eq_true rfl, Nat.le_of_ble_eq_true rfl⟩, Nat.le_of_ble_eq_true rfl, Nat.le_of_ble_eq_true rfl⟩ (Nat.le_of_ble_eq_true rfl) rfl [86] rfl (fun _ => rfl) rfl dL_law_12 ?_
    intro v4 hv4
    dsimp only [jput, List.set_cons_zero, List.set_cons_succ, Option.toList, List.append, List.cons_append, List.nil_append, List.append_nil, List.append_assoc]
    refine J.astore_n g dL_law_15 rfl rfl rfl ?_
    try dsimp only [List.set_cons_zero, List.set_cons_succ]
    refine J.iconstN g 1 dL_law_16 ?_
    refine J.newa g (N := 1) (i := 3) (ty := .long) (a0 := (1, .inr (.inl (fun _ => 0)))) dL_law_17 jac_L rfl rfl (fun _ => rfl) (nI_pos (by decide)) (nI_clamp (by decide)) (Nat.le_of_ble_eq_true rfl) (Nat.le_of_ble_eq_true rfl) (Nat.le_of_ble_eq_true rfl) (fun q5 => ?_)
    try dsimp only [List.append, List.cons_append, List.nil_append, List.append_assoc]
    refine J.astore_n g dL_law_19 rfl rfl rfl ?_
    try dsimp only [List.set_cons_zero, List.set_cons_succ]
    refine J.iconstN g 0 dL_law_20 ?_
    refine J.istore g dL_law_21 rfl rfl ?_
    try dsimp only [List.set_cons_zero, List.set_cons_succ]
    obtain rfl := hv2
    obtain rfl := hv4
    refine J.widen (cs' := 200) (sl' := 40000) (Nat.le_of_ble_eq_true rfl) (Nat.le_of_ble_eq_true rfl) ?_
    exact lc_loop hfl g hZ hX9 hL hEnd (L + 1) (ca := v2) (ma := v4) (oa := q5) (dsd := 0) (tl := 0) (tf := (fun _ => 0)) (q := ((0, 0, 0, 0), (0, 0), (0, 0, -1), (0, fun _ => 0))) (cd := 0) (pt := 0) (od := 0) (ex := 0) (mf := (fun _ => 0)) (af := (fun _ => 0)) (n := 0) (f := (fun _ => 0)) (trn := 0) (trf := (fun _ => 0)) (oon := 0) (oof := (fun _ => 0)) (nx := 0) (pl := 0) (ln := (fun _ => 0)) (rf := (fun _ _ => 0)) (ic := (fun _ => 0)) (il := (fun _ => 0)) (ik := (fun _ => false)) (iff := (fun _ _ => 0)) (pn := 0) (M := (fun _ _ => 0)) (W := (fun _ _ => 0)) (s0 := (fun _ => 0)) (s1 := (fun _ => 0)) (s2 := (fun _ => 0)) (s3 := (fun _ => 0)) (sgc := 0) (wh := 0) (m0 := (fun _ => 0)) (m1 := (fun _ => 0)) (m2 := (fun _ => 0)) (rn := 0) (rfp := (fun _ => 0)) (sg := 0) (C := (fun _ => 0)) (gl := 0) (gf := (fun _ => 0)) (fl := 0) (ff := (fun _ => 0)) (mth := 0) (mfw := (-1)) (mse := 0) (mwd := 0) (mtd := 0) (msz := 0) (mto := 0) (mfr := 0) (mso := 0) (mnu := 0) (mfa := 0) (mpl := 0) (mro := 0) (msm := 0) (mln := 0) (t := (fun _ => 0)) (w := (fun _ => 0)) (r9 := (fun _ => 0)) (KF := (fun _ => 0)) (SS := (fun _ => 0)) (bf := (fun _ => 0)) (lv9 := (fun _ => 0)) (mik := (fun _ => false)) (su := (fun _ => 0)) (be := (fun _ => false)) (fe := (fun _ => 0)) (my := (fun _ => 0)) (O9 := (fun _ => 0)) (S9 := (fun _ => false)) (LF := (fun _ => 0)) (TF := (fun _ => 0)) (C9 := (fun _ => 0)) (rn9 := (fun _ => 0)) (rb := (fun _ => 0)) (TB := (fun _ => 0)) (o9 := (fun _ => 0)) 0 200 40000 (by omega) (Nat.zero_le _) (by omega) (by omega) lR_0
  subst hx9
  rw [lg_entry_eq]
  exact k0 s.heap [] _ (fun k q h => by simp at h) ⟨fun i j p q h => by simp at h, fun k q h => by simp at h⟩ va_S.rf (lvx_entry [.ref b] (n := 7) (Nat.le_of_ble_eq_true rfl))
set_option maxHeartbeats 4000000 in
theorem lw_walk (l : Launch) (hflags : l.flags = flags0) (b : Addr) (xs : List Int32) : MetFree l x (headSpec (Jvm.Cond.code x code maxLocals ret :: tables_1) room_1) (lw_P b xs) (fun _ _ _ _ _ => True) lw_Q := by
  refine MetFree.of_bodyS (code := code) (maxLocals := maxLocals) (ret := ret) (by decide) ?_ ?_
  · intro args s m h hn
    obtain ⟨meth, c, h1, h2, h3, h4, h5, h6, -, -⟩ := Cond.code_spec hn (atoms_spec (ws := Jvm.Cond.code x code maxLocals ret :: tables_1) h _ List.mem_cons_self)
    exact ⟨meth, c, h1, h2, h3, h4, h5, h6⟩
  · intro p e s m args below meth c s₁ B hml0 hP _
    obtain ⟨rfl, hx, hbd, hgv⟩ := hP
    obtain ⟨scr, harrAt, hlist, hof, hsmall⟩ := hx
    obtain ⟨hcb, hkn, -, -⟩ := State.arrayAt?_spec harrAt
    have hown : s.vm.findClass R_law = some m.cls := findClass_of_methodNamed B.named
    have hts0 : ∀ c ∈ (Jvm.Cond.code x code maxLocals ret :: tables_1), c.before #[Value.ref b] s = true := atoms_spec (ws := Jvm.Cond.code x code maxLocals ret :: tables_1) B.pre
    have hts : ∀ w ∈ lw_tbl, w.before #[Value.ref b] s = true := k2_hts_sels lw_privs (fun w hw => hts0 w (List.mem_cons_of_mem _ hw)) lw_privs_ok
    have hml : c.maxLocals = 7 := B.maxLocals_eq (hts0 _ List.mem_cons_self)
    have X₀ : Stand p l e room_1 s m #[Value.ref b] below meth c s₁ [] 0 0 := Stand.of_body B
    have hh0 : s₁.heap = s.heap := by rw [B.state]; rfl
    have hsz : scr.slots.size = xs.length := by rw [← Array.length_toList, hlist, List.length_map]
    have hval : ∀ j : Nat, j < xs.length → scr.slots[j]? = some (.int (xs.getD j 0)) := fun j hj => by
      rw [← Array.getElem?_toList, hlist]
      simp [hj]
    have hbl : b < s.heap.size := (Array.getElem?_eq_some_iff.mp hcb).1
    have hX : va_X b xs.length (fun j => xs.getD j 0) s s.heap := ⟨scr, hcb, hof, hkn, hsz, hval⟩
    have K : W p l e room_1 s m #[Value.ref b] below meth c s₁.heap [] 0 0 (lw_Z below #[Value.ref b] s) (entryFrame m ([Value.ref b] : List Value).toArray 7) := by
      rw [hh0]
      exact whole_start l hflags hbd ⟨B.exec, B.bytes, B.returns, hml, hown, hts, hX, hbl, B.notSynchronized, hgv⟩
    obtain ⟨t, a1, o, b1, b2, b3⟩ := K s₁ rfl X₀
    exact ⟨t, o, a1, b1, b2, b3⟩
theorem lw_pre_spec {args : Array Value} {s : State} (h : (Jvm.Cond.and given_1 narrow_1).before args s = true) (hr : rest_1_c.before args s = true) : ∃ (b : Addr) (xs : List Int32), lw_P b xs args s := by
  have hs := flat_of_before _ h
  have hq := flat_of_before _ hr
  have hc : (Cond.count 1).before args s = true := hs _ (by decide +kernel)
  have harr : (Cond.arrayOf (.arg 0) .int).before args s = true := hs _ (by decide +kernel)
  have hle : (Cond.le (.length (.arg 0)) (.int 3072)).before args s = true := hs _ (by decide +kernel)
  have hlen : (Cond.isInt (.length (.arg 0))).before args s = true := hq _ (by decide +kernel)
  have hall : (Cond.all (.arg 0) (.isInt (.elem (.arg 0) (.index 0)))).before args s = true := hq _ (by decide +kernel)
  obtain ⟨b, xs, hb, hx⟩ := State.ints_of_pre rfl harr hlen hall
  have hsm : xs.length < 2 ^ 31 := hx.choose_spec.2.2.2
  have hev : (Term.length (.arg 0)).eval args s none [] s = some (.int xs.length.toInt32) := hx.length_eval hb
  have hv := Cond.le_ints hev (show (Term.int 3072).eval args s none [] s = some (.int 3072) from rfl)
  have hd : xs.length.toInt32 ≤ 3072 := by
    simpa [Cond.before, Cond.holds, hv] using hle
  have hN : xs.length ≤ 3072 := (Int32.ofNat_le_ofNat hsm (by decide)).mp (show Int32.ofNat xs.length ≤ Int32.ofNat 3072 from hd)
  exact ⟨b, xs, Cond.one_arg hc (show args[0]? = some (.ref b) from hb), hx, hN, h⟩
theorem lw_comes (l : Launch) (hflags : l.flags = flags0) : Comes l x (Jvm.Cond.code x code maxLocals ret :: tables_1) room_1 (fun tb e args s => Calls_1 tb e args s ∧ rest_1 tb e args s ∧ Pre_1 tb e args s)
    (fun _ _ args s o t => lw_Q args s o t) := by
  intro p e ha hc hk s m args below hf hfit hheap happ hpre
  obtain ⟨b, xs, hP⟩ := lw_pre_spec hpre.2.2 hpre.2.1
  obtain ⟨k, o, h1, h2, h3, hQ⟩ := lw_walk l hflags b xs p e ha hc hk s m args below hf ((Spec.applies_iff_loose hf).mp happ).1 hP trivial
  exact ⟨k, o, h1, h2, h3, hQ⟩
theorem lw_frame {s t : State} {o : Outcome} {args : Array Value} (h : Framed s o t [] 601024 7293034) :
    Framed s o t (fieldLocs frame_1_writes args s ++ arrayLocs frame_1_arrays args s ++ staticLocs frame_1_statics s) 601024 7293034 := h
theorem lw_limb (L : Cond) (hL : ∀ (args : Array Value) (s t : State), L.after args s (.returned (some (.int 1))) t = true) :
    ArmFor flags0 classFile x code maxLocals ret World_1 tables_1 room_1 Calls_1 rest_1 Pre_1
      (fun tb e a s o t => postC L tb e a s o t ∧ Framed s o t (fieldLocs frame_1_writes a s ++ arrayLocs frame_1_arrays a s ++ staticLocs frame_1_statics s) 601024 7293034) := by
  intro l hflags _ _ p e ha hc hk s m args below hf hfit hheap happ hpre
  obtain ⟨k, o, h1, h2, h3, rfl, hF⟩ := lw_comes l hflags p e ha hc hk s m args below hf hfit hheap happ hpre
  exact ⟨k, _, h1, h2, h3, hL args s _, lw_frame hF⟩
theorem i_vc : Claimed_1_1 ∧ Claimed_1_2 := ⟨lw_limb limb_1_1 (fun args s t => by simp [limb_1_1, Cond.after, Cond.holds, Cond.value]), lw_limb limb_1_2 (fun args s t => Cond.after_iff.mpr (by
  first | (rw [show limb_1_2 = Cond.eq .result (.int 1) from rfl, Cond.eq_ints (x := 1) (y := 1) rfl rfl]; simp; done) | (simp [limb_1_2, Cond.value, Term.eval]; done)))⟩

