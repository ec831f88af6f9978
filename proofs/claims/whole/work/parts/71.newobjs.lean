/-! things made: rows of objects, rows of rows, constructors of nest mates -/
theorem GoodIn_jw {y : MethodName} {b : ByteArray} {n : Nat} {r : Option FieldType} (h : Cond.code y b n r ∈ jTT) : GoodIn jTT (jw y b n r) := fun w hw => (List.mem_cons.mp hw).elim (fun e => e ▸ ⟨h, jTT_good h⟩) (fun e => ⟨e, jTT_good e⟩)
section
variable {γ : jγ} {l : Launch} {x : jE} {ws : va_W} {lv : List (Option Value)} {st : List Value} {cs sl pc : Nat}
variable {rm : Room} {cc : ByteArray} {own : String} {ret : Option FieldType}
theorem J.callIN {S : Type} {y : MethodName} {b : ByteArray} {nl ix : Nat} {r2 : Room} {As rest : List Value} {wc : va_W} {rt : S → Option Value} {ws1 : S → va_W} {post : S → Prop} (g : jG γ x rm cc own ret) {a : Nat} {host : String} (hM : jM l γ y b nl none r2 (.ref a :: As) wc rt ws1 post) (hy : jYI y b nl none As.length) (hw : (own, ix, y, host) ∈ jNL) (hyn : y.name = "<init>") (hR : (r2.frames + 1 ≤ rm.frames ∧ 8 + (nl + 11) + r2.locals ≤ rm.locals) ∧ cs + r2.cells ≤ rm.cells ∧ sl + r2.slots ≤ rm.slots) (hrest : (rest.map fun v => v.category).sum ≤ 8) (hst : st = As.reverse ++ .ref a :: rest) (is : List Nat) (hC : is.map (fun i => ws[i]?) = wc.map some) (ha : ∀ u : S, ((ws1 u).take wc.length).map Prod.fst = wc.map Prod.fst) (hnd : va_nd is = true) (hd : decode cc pc = .ok (.invokespecial ix, 3)) (kk : ∀ u : S, post u → J γ l x (jput ws is (ws1 u)) lv ((rt u).toList ++ rest) (cs + r2.cells) (sl + r2.slots) (pc + 3)) : J γ l x ws lv st cs sl pc := by
  have ok : ∀ w ∈ jTT, w.before (ja x) (jS x) = true := g.2.2.2.2.1
  refine j_after g (As := (.ref a :: As)) (r2 := r2) (wc := wc) (rt := rt) (ws1 := ws1) (post := post) (rest := rest) (fun H locs ls hP hD hS hl0 => ?_) is hC ha kk
  have hDc : va_D (fun _ => True) wc := (hD.sub is hnd hC).weaken (fun _ _ _ _ => trivial)
  have hpre : ∀ U : State, U.heap = H → (jS x).WarmedH U.vm → va_Pc (.ref a :: As) (jPre γ wc H.size) ((.ref a :: As) : List Value).toArray U := fun U hU hW => ⟨rfl, by rw [hU], by rw [hU]; exact jsub hP is hC, va_K.moved hW.alike g.2.2.2.2.2.1, hDc, by rw [hU]; exact ((g.2.2.2.2.2.2.2.2.2.2.kept (H1 := H) hS.2.1).narrow (va_free hD hS g.2.2.2.2.2.2.2.2.1 is hC)).warm hW⟩
  exact va_runIN (As := As) (rest := rest) ⟨g.1, g.2.1, g.2.2.1, g.2.2.2.1, g.2.2.2.2.1⟩ (hM H.size) ⟨va_cnB (host := host) As.length ok (GoodIn_jw hy.1.1) rfl rfl rfl (g.2.2.2.2.2.2.2.2.2.2.1 _ hw) (ok _ hy.1.2) hy.2.1 (by rw [g.2.2.2.2.2.2.2.2.2.1]; exact hR.1), hyn, ok _ hy.2.2⟩ ⟨jFB γ _ _ _, hpre⟩ rfl rfl hl0.2.1 hst (lv_room hrest) hd (by rw [g.2.2.2.2.2.2.2.2.2.1]; exact hR.2)
theorem J.newq2 (g : jG γ x rm cc own ret) {C : String} {index : Nat} {n : Int32} {N i : Nat} {cA0 : ClassId} (hd : decode cc pc = .ok (.anewarray index, 3)) (hcl : Cond.classLink own index C ∈ jTT) (hC : C = "NoughtSums$Row" ∨ C = "NoughtSums$Image") (hi : (jT γ)[i]? = some (cA0, .object C)) (hn : ¬ n < 0) (hN : n.toNatClampNeg = N) (hbytes : N * 4 ≤ 536870912) (hcells : cs + 1 ≤ rm.cells) (hslots : sl + N ≤ rm.slots) (k : ∀ q : Nat, J γ l x (ws ++ [(q, .inl (cA0, N, .inr (.inr (.inr (.inr (fun _ => none))))))]) lv (.ref q :: st) (cs + 1) (sl + N) (pc + 3)) : J γ l x ws lv (.int n :: st) cs sl pc := by
  obtain ⟨g1, g2, g3, g4, g5, g6, g7, g8, g9, g10, g11⟩ := g
  intro H locs ls hP hD hS hl
  have hov : va_AO C (jS x) := by
    rcases hC with rfl | rfl
    · exact g11.2.1.1
    · exact g11.2.1.2.1
  refine va_newq g1 g2 g4 (g5 _ hcl) hov g6 hP hD hS g9 hn hN hbytes (by rw [g10]; exact hcells) (by rw [g10]; exact hslots) hd fun q cA H1 h0 h1 h2 h3 => ?_
  have e1 := (h0.2 (jT γ).length (cA, .object C) (by rw [List.getElem?_append_right (Nat.le_refl _), Nat.sub_self]; rfl)).2
  have e2 := (g6.2 i (cA0, .object C) hi).2
  have e3 : cA = cA0 := va_RA_uq e1 e2
  subst e3
  exact k q H1 locs ls h1 h2 h3 hl
theorem J.qast (g : jG γ x rm cc own ret) (q0 t0 qk ci k : Nat) {a n v : Nat} {cA : ClassId} {r : vw_C} {vs : List Value} {f : Nat → Option Nat} (ha : ws[q0]? = some (a, .inl (cA, n, .inr (.inr (.inr (.inr f)))))) (ht : (jT γ)[t0]? = some (cA, .object r.1)) (hv : ws[qk]? = some (v, .inr (ci, vs))) (hc : vwCl[ci]? = some r) (hk : k < n) (hn : n < 2 ^ 31) (hd : decode cc pc = .ok (.aastore, 1)) (kk : J γ l x (ws.set q0 (a, .inl (cA, n, .inr (.inr (.inr (.inr (va_up f k (some v)))))))) lv st cs sl (pc + 1)) : J γ l x ws lv (.ref v :: .int (nI k) :: .ref a :: st) cs sl pc := by
  intro H locs ls hP hD hS hl0
  refine va_astq g.1 g.2.1 g.2.2.2.2.2.1 hP hD hS q0 t0 qk ci ha ht hv hc (nI_in hk hn) hd (fun H1 locs1 hP1 hD1 hS1 => ?_)
  rw [nI_clamp (by omega)] at hP1 hD1
  exact kk H1 locs1 ls hP1 hD1 hS1 hl0
theorem J.qcong (q0 : Nat) {a n : Nat} {cA : ClassId} {f f' : Nat → Option Nat} (ha : ws[q0]? = some (a, .inl (cA, n, .inr (.inr (.inr (.inr f)))))) (h : ∀ i, i < n → f i = f' i) (k : J γ l x (ws.set q0 (a, .inl (cA, n, .inr (.inr (.inr (.inr f')))))) lv st cs sl pc) : J γ l x ws lv st cs sl pc := by
  intro H locs ls hP hD hS hl0
  refine k H locs ls (hP.set hD ha ?_ (fun _ _ => rfl)) (hD.set ha) hS hl0
  have h1 : H[a]? = some (vp_cell cA (n, .inr (.inr (.inr (.inr f))))) := hP q0 _ ha
  show H[a]? = some (vp_cell cA (n, .inr (.inr (.inr (.inr f')))))
  rw [h1, vp_cell_q, vp_cell_q]
  have : (Array.ofFn (n := n) fun j => va_rf (f j.val)) = Array.ofFn (n := n) fun j => va_rf (f' j.val) := by
    congr 1
    funext j
    rw [h j.val j.isLt]
  unfold arrV
  rw [this]
end
theorem va_D_app {A : Nat → Prop} {ws es : va_W} {D : va_G} {cl : List vw_C} {H : Heap} (hD : va_D A ws) (hP : va_P D cl ws H) (hl : ∀ i p, es[i]? = some p → p.1 = H.size + i) (hA : ∀ q, H.size ≤ q → A q) : va_D A (ws ++ es) := by
  have key : ∀ (k : Nat) (p : Nat × va_E), (ws ++ es)[k]? = some p → (k < ws.length ∧ ws[k]? = some p ∧ p.1 < H.size) ∨ (ws.length ≤ k ∧ p.1 = H.size + (k - ws.length)) := by
    intro k p hk
    by_cases q : k < ws.length
    · rw [List.getElem?_append_left q] at hk
      exact Or.inl ⟨q, hk, (hP k p hk).lt⟩
    · rw [List.getElem?_append_right (by omega)] at hk
      exact Or.inr ⟨by omega, hl _ _ hk⟩
  refine ⟨fun i j p q hi hj e => ?_, fun k q hk => ?_⟩
  · rcases key i p hi with ⟨a1, a2, a3⟩ | ⟨a1, a2⟩ <;> rcases key j q hj with ⟨b1, b2, b3⟩ | ⟨b1, b2⟩
    · exact hD.1 i j p q a2 b2 e
    · omega
    · omega
    · omega
  · rcases key k q hk with ⟨a1, a2, a3⟩ | ⟨a1, a2⟩
    · exact hD.2 k q a2
    · exact hA _ (by omega)
theorem outer_arrVi (c : ClassId) (N h0 : Nat) : ∀ i, Jvm.Free.Multi.outerC c N h0 i = arrV c N (fun j => if j < i then .ref (h0 + 1 + j) else .null)
  | 0 => by
    show ({ cls := c, slots := Array.replicate N .null, vm := .none } : Cell) = _
    rw [arrV_new]
    congr 1
  | i + 1 => by
    show (Jvm.Free.Multi.outerC c N h0 i).setSlot i (.ref (h0 + 1 + i)) = _
    rw [outer_arrVi c N h0 i, arrV_store]
    congr 1
    funext j
    unfold updV
    by_cases e : j = i
    · subst e
      rw [if_pos rfl, if_pos (by omega)]
    · rw [if_neg e]
      show (if j < i then (.ref (h0 + 1 + j) : Value) else .null) = _
      by_cases hj : j < i
      · rw [if_pos hj, if_pos (by omega)]
      · rw [if_neg hj, if_neg (by omega)]
theorem outer_arrV (c : ClassId) (N h0 : Nat) : Jvm.Free.Multi.outerC c N h0 N = arrV c N (fun j => .ref (h0 + 1 + j)) := by
  rw [outer_arrVi]
  have : (Array.ofFn (n := N) fun j => (if j.val < N then (.ref (h0 + 1 + j.val) : Value) else .null)) = Array.ofFn (n := N) fun j => (.ref (h0 + 1 + j.val) : Value) := by
    congr 1
    funext j
    rw [if_pos j.isLt]
  unfold arrV
  rw [this]
section
variable {p : Program} {l : Launch} {e : Env} {R : Room} {s : State} {m : MethodId} {args : Array Value} {below : List Frame} {meth : Method} {c : Code} {H : Heap} {locs : List Loc} {cells slots : Nat}
variable {Q : State → Prop} {cc : ByteArray} {pc : Nat} {ls : Array Slot} {rest : List Value}
set_option maxHeartbeats 4000000 in
/-- two dimensions at once -/
theorem jW_multi (hexec : p.tables.exec = Jvm.exec) (hb : c.code = cc) {own : String} {index : Nat} {c4 c0 c9 : ClassId} {kA kC : Class} (hown : s.vm.findClass own = some m.cls) (hclink : (Cond.classLink own index "[[I").before args s = true) (hname : s.vm.findClass "[[I" = some c4) (hkA : s.vm.classes[c4]? = some kA) (hkindA : kA.kind = .array c0 (.array .int)) (hkC : s.vm.classes[c0]? = some kC) (hkindC : kC.kind = .array c9 .int)
    {n k : Int32} (hn : ¬ n < 0) (hk : ¬ k < 0) (hb1 : n.toNatClampNeg * 4 ≤ 536870912) (hb2 : k.toNatClampNeg * 4 ≤ 536870912) (hdg : decode cc pc = .ok (.multianewarray index 2, 4)) (hcells : cells + (1 + n.toNatClampNeg) ≤ R.cells) (hslots : slots + (n.toNatClampNeg + n.toNatClampNeg * k.toNatClampNeg) ≤ R.slots)
    (kk : ∀ H1 : Heap, H1.size = H.size + 1 + n.toNatClampNeg → (∀ a : Nat, a < H.size → H1[a]? = H[a]?) → H1[H.size]? = some (arrV c4 n.toNatClampNeg (fun j => .ref (H.size + 1 + j))) → (∀ j, j < n.toNatClampNeg → H1[H.size + 1 + j]? = some (arrV c0 k.toNatClampNeg (fun _ => .int 0))) → W p l e R s m args below meth c H1 locs (cells + (1 + n.toNatClampNeg)) (slots + (n.toNatClampNeg + n.toNatClampNeg * k.toNatClampNeg)) Q (F0 m (pc + 4) ls (.ref H.size :: rest))) :
    W p l e R s m args below meth c H locs cells slots Q (F0 m pc ls (.int k :: .int n :: rest)) := by
  intro T hT X
  subst hT
  have hpl : e.platform.magicAccessors = ({} : Platform).magicAccessors := by rw [X.admits.platform]
  obtain ⟨c8, hfc0, hcl⟩ := Cond.classLink_spec hown hclink e.platform hpl
  cases hname.symm.trans hfc0
  obtain ⟨hg₁, hwarm₁, hready₁⟩ := State.classEntry (e := e) X.warmed hcl
  generalize T.vm.noted m.cls index (.cls c4) = vm₁ at hg₁ hwarm₁ hready₁
  have hal : s.vm.Alike vm₁ := hwarm₁.alike
  obtain ⟨kA₁, hkA₁, heA⟩ := hal.2.2 _ _ hkA
  obtain ⟨kC₁, hkC₁, heC⟩ := hal.2.2 _ _ hkC
  have hkindA₁ : kA₁.kind = .array c0 (.array .int) := by rw [heA]; exact hkindA
  have hkindC₁ : kC₁.kind = .array c9 .int := by rw [heC]; exact hkindC
  have X₁ := X.noted hwarm₁
  obtain ⟨hr1, hr2⟩ := X.roomAbove hcells hslots
  have XF := X₁.filled c4 c0 n.toNatClampNeg k.toNatClampNeg (defaultValue .int) n.toNatClampNeg
  have XG := XF.dropFresh (fun z hz => by
    obtain ⟨j, -, rfl⟩ := List.mem_map.mp hz
    exact X.heapGrown)
  have f0 := Jvm.Free.Multi.fill_facts (T.setVm vm₁) c4 c0 n.toNatClampNeg k.toNatClampNeg (defaultValue .int) n.toNatClampNeg
  have f1 := fun (a : Addr) (ha : a < T.heap.size) => Jvm.Free.Multi.fill_old (T.setVm vm₁) c4 c0 n.toNatClampNeg k.toNatClampNeg (defaultValue .int) ha n.toNatClampNeg
  have f2 := Jvm.Free.Multi.fill_inner (T.setVm vm₁) c4 c0 n.toNatClampNeg k.toNatClampNeg (defaultValue .int) n.toNatClampNeg
  obtain ⟨t, a1, b1⟩ := kk _ f0.1 f1 (by rw [← outer_arrV]; exact f0.2.1) (fun j hj => by rw [← arrV_new]; exact f2 j hj) _ rfl (by rw [← Nat.add_assoc, ← Nat.add_assoc]; exact XG)
  refine ⟨t, ?_, b1⟩
  have hl1 : ¬ n.toNatClampNeg > e.platform.arrayLengthLimit := by rw [Launch.admits_arrayLengthLimit X.admits]; omega
  have hh1 : ¬ n.toNatClampNeg * componentBytes (.array .int) > e.platform.maxHeapBytes := by
    rw [Launch.admits_maxHeapBytes X.admits]; show ¬ n.toNatClampNeg * 4 > 536870912; omega
  have hl2 : ¬ k.toNatClampNeg > e.platform.arrayLengthLimit := by rw [Launch.admits_arrayLengthLimit X.admits]; omega
  have hh2 : ¬ k.toNatClampNeg * componentBytes .int > e.platform.maxHeapBytes := by
    rw [Launch.admits_maxHeapBytes X.admits]; show ¬ k.toNatClampNeg * 4 > 536870912; omega
  subst hb
  have hdg' : decode c.code (F0 m pc ls (.int k :: .int n :: rest)).pc = .ok (.multianewarray index 2, 4) := hdg
  jvm_step X.here [hexec, hdg']
  simp only [Jvm.Op.multianewarray.sem, wp_bind', W.resolveClassAt_links (State.method?_setTop (F0 m pc ls (.int k :: .int n :: rest)) X.here.top) hg₁]
  rw [W.popN, if_neg (by decide)]
  refine ⟨F0 m pc ls (.int k :: .int n :: rest), State.topJava?_setTop' (s := T.setVm vm₁) _ X.here.top, [.int n, .int k], rest, rfl, rfl, ?_⟩
  simp only [List.mapM_cons, List.mapM_nil, wp_bind', wp_pure']
  refine Jvm.Free.Multi.wp_make2 (k := kA₁) (kc := kC₁) (comp := c0) (cc := c9) (t0 := .array .int) (type := .int) hkA₁ hkindA₁ rfl hkC₁ hkindC₁ hn hk hl1 hh1 hl2 hh2 rfl rfl (by show T.heap.size + 1 + _ ≤ _; omega) (by show T.slotsUsed + _ + _ ≤ _; omega) (fun d' acts' => ?_)
  have eS : ((T.setTop (F0 m pc ls (.int k :: .int n :: rest))).setVm vm₁).setTop { F0 m pc ls (.int k :: .int n :: rest) with stack := rest } = (T.setVm vm₁).setTop { F0 m pc ls (.int k :: .int n :: rest) with stack := rest } := by
    show ((T.setVm vm₁).setTop _).setTop _ = _
    rw [State.setTop_setTop]
  rw [eS, Jvm.Free.Multi.fill_setTop]
  simp only [wp_bind', W.mark, W.pushRef, State.topJava?_setTop' _ XF.here.top, Option.some.injEq, exists_eq_left', State.setTop_setTop, State.heap_setTop]
  intro acts
  simp [jvm, XF.here.top]
  exact a1
end
section
variable {γ : jγ} {l : Launch} {x : jE} {ws : va_W} {lv : List (Option Value)} {st : List Value} {cs sl pc : Nat}
variable {rm : Room} {cc : ByteArray} {own : String} {ret : Option FieldType}
theorem J.multi (g : jG γ x rm cc own ret) {ix N M : Nat} (hd : decode cc pc = .ok (.multianewarray ix 2, 4)) (hcl : Cond.classLink own ix "[[I" ∈ jTT) (hN : N < 1000) (hM : M < 1000) (hcells : cs + (1 + N) ≤ rm.cells) (hslots : sl + (N + N * M) ≤ rm.slots)
    (k : ∀ (q : Nat) (ad : Nat → Nat), J γ l x (ws ++ ((q, .inl (γ.2 4, N, .inr (.inr (.inr (.inr (fun i => some (ad i))))))) :: jrows γ ad N M (fun _ _ => 0))) lv (.ref q :: st) (cs + (1 + N)) (sl + (N + N * M)) (pc + 4)) : J γ l x ws lv (.int (nI M) :: .int (nI N) :: st) cs sl pc := by
  obtain ⟨g1, g2, g3, g4, g5, g6, g7, g8, g9, g10, g11⟩ := g
  intro H locs ls hP hD hS hl
  obtain ⟨kA, z1, z2⟩ := g11.2.1.2.2
  have e4 := g6.2 4 (γ.2 4, .array .int) rfl
  have e0 := g6.2 0 (γ.2 0, .int) rfl
  obtain ⟨-, kC, z3, c9, z4⟩ := e0.1 0 (fun _ => .null)
  have cN : (nI N).toNatClampNeg = N := nI_clamp (by omega)
  have cM : (nI M).toNatClampNeg = M := nI_clamp (by omega)
  refine jW_multi g1 g2 g4 (g5 _ hcl) e4.2 z1 z2 z3 z4 (nI_pos (by omega)) (nI_pos (by omega)) (by rw [cN]; omega) (by rw [cM]; omega) hd (by rw [g10, cN]; exact hcells) (by rw [g10, cN, cM]; exact hslots) (fun H1 y1 y2 y3 y4 => ?_)
  rw [cN] at y1 y3 y4 ⊢
  rw [cM] at y4 ⊢
  have hk : ∀ (k : Nat) (q : Nat × va_E), ws[k]? = some q → H1[q.1]? = H[q.1]? := fun k q hq => y2 q.1 ((hP k q hq).lt)
  have hat : ∀ (i : Nat) (q : Nat × va_E), ((H.size, (.inl (γ.2 4, N, .inr (.inr (.inr (.inr (fun i => some (H.size + 1 + i)))))) : va_E)) :: jrows γ (fun i => H.size + 1 + i) N M (fun _ _ => 0))[i]? = some q → q.1 = H.size + i ∧ va_at γ.1 vwCl q H1 := by
    intro i q hq
    cases i with
    | zero =>
      simp only [List.getElem?_cons_zero, Option.some.injEq] at hq
      subst hq
      exact ⟨rfl, y3⟩
    | succ i =>
      rw [List.getElem?_cons_succ] at hq
      unfold jrows at hq
      rw [List.getElem?_map] at hq
      by_cases hi : i < N
      · rw [List.getElem?_range hi, Option.map_some] at hq
        have hq := (Option.some.inj hq).symm
        subst hq
        refine ⟨by show H.size + 1 + i = H.size + (i + 1); omega, ?_⟩
        exact y4 i hi
      · rw [List.getElem?_eq_none (by rw [List.length_range]; omega)] at hq
        cases hq
  exact k H.size (fun i => H.size + 1 + i) H1 locs ls ((hP.kept hk).app (fun i q hq => (hat i q hq).2)) (va_D_app hD hP (fun i q hq => (hat i q hq).1) (fun q hq => g9 q (Nat.le_trans hS.1 hq))) ⟨Nat.le_trans hS.1 (by omega), fun q h1 h2 => (y2 q (Nat.lt_of_lt_of_le h1 hS.1)).trans (hS.2.1 q h1 h2), hS.2.2⟩ hl
end
