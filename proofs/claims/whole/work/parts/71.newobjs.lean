/-! things made: rows of objects, rows of rows, constructors of nest mates -/
theorem GoodIn_jw {y : MethodName} {b : ByteArray} {n : Nat} {r : Option FieldType} (h : Cond.code y b n r ∈ jTT) : GoodIn jTT (jw y b n r) := fun w hw => (List.mem_cons.mp hw).elim (fun e => e ▸ ⟨h, jTT_good h⟩) (fun e => ⟨e, jTT_good e⟩)
section
variable {γ : jγ} {l : Launch} {x : jE} {ws : va_W} {lv : List (Option Value)} {st : List Value} {cs sl pc : Nat}
variable {rm : Room} {cc : ByteArray} {own : String} {ret : Option FieldType}
theorem J.callIN {S : Type} {y : MethodName} {b : ByteArray} {nl ix : Nat} {r2 : Room} {As rest : List Value} {wc : va_W} {rt : S → Option Value} {ws1 : S → va_W} {post : S → Prop} (g : jG γ x rm cc own ret) {a : Nat} {host : String} (hM : jM l γ y b nl none r2 (.ref a :: As) wc rt ws1 post) (hy : jYI y b nl none As.length) (hw : (own, ix, y, host) ∈ jNL) (hyn : y.name = "<init>") (hR : (r2.frames + 1 ≤ rm.frames ∧ 8 + (nl + 11) + r2.locals ≤ rm.locals) ∧ cs + r2.cells ≤ rm.cells ∧ sl + r2.slots ≤ rm.slots) (hrest : (rest.map fun v => v.category).sum ≤ 8) (hst : st = As.reverse ++ .ref a :: rest) (is : List Nat) (hC : is.map (fun i => ws[i]?) = wc.map some) (ha : ∀ u : S, ((ws1 u).take wc.length).map Prod.fst = wc.map Prod.fst) (hnd : va_nd is = true) (hd : decode cc pc = .ok (.invokespecial ix, 3)) (kk : ∀ u : S, post u → J γ l x (jput ws is (ws1 u)) lv ((rt u).toList ++ rest) (cs + r2.cells) (sl + r2.slots) (pc + 3)) : J γ l x ws lv st cs sl pc := by
  have ok : ∀ w ∈ jTT, w.before (ja x) (jS x) = true := g.2.2.2.2.1
  refine j_after g (As := (.ref a :: As)) (r2 := r2) (wc := wc) (rt := rt) (ws1 := ws1) (post := post) (rest := rest) (fun H locs ls hP hD hS hl0 => ?_) is hC ha kk
  have hDc : va_D (fun _ => True) wc := (hD.sub is hnd hC).weaken (fun _ _ _ _ => trivial)
  have hpre : ∀ U : State, U.heap = H → (jS x).WarmedH U.vm → va_Pc (.ref a :: As) (jPre γ wc H.size) ((.ref a :: As) : List Value).toArray U := fun U hU hW => ⟨rfl, by rw [hU], by rw [hU]; exact jsub hP is hC, va_K.moved hW.alike g.2.2.2.2.2.1, hDc, by rw [hU]; exact ((g.2.2.2.2.2.2.2.2.2.2.kept (H1 := H) hS.2.1).narrow (va_free hD hS g.2.2.2.2.2.2.2.2.1 is hC)).warm hW⟩
  exact va_runIN (As := As) (rest := rest) ⟨g.1, g.2.1, g.2.2.1, g.2.2.2.1, g.2.2.2.2.1⟩ (hM H.size) ⟨va_cnB (host := host) As.length ok (GoodIn_jw hy.1.1) rfl rfl rfl (g.2.2.2.2.2.2.2.2.2.2.1 _ hw) (ok _ hy.1.2) hy.2.1 (by rw [g.2.2.2.2.2.2.2.2.2.1]; exact hR.1), hyn, ok _ hy.2.2⟩ ⟨jFB γ _ _ _, hpre⟩ rfl rfl hl0.2.1 hst (lv_room hrest) hd (by rw [g.2.2.2.2.2.2.2.2.2.1]; exact hR.2)
theorem J.newq2 (g : jG γ x rm cc own ret) {C : String} {index : Nat} {n : Int32} {N i : Nat} {cA0 : ClassId} (hd : decode cc pc = .ok (.anewarray index, 3)) (hcl : Cond.classLink own index C ∈ jTT) (hC : C = "NoughtSums$Row" ∨ C = "NoughtSums$Image") (hi : (jT γ)[i]? = some (cA0, .object C)) (hn : ¬ n < 0) (hN : n.toNatClampNeg = N) (hbytes : N * 4 ≤ 536870912) (hcells : cs + 1 ≤ rm.cells) (hslots : sl + N ≤ rm.slots) (k : ∀ q : Nat, J γ l x (ws ++ [(q, .inl (cA0, N, .inr (.inr (.inr (.inr (fun _ => none))))))]) lv (.ref q :: st) (cs + 1) (sl + N) (pc + 3)) : J γ l x ws lv (.int n :: st) cs sl pc := by
  obtain ⟨g1, g2, g3, g4, g5, g6, g7, g8, g9, g10, g11⟩ := g
  intro H locs ls hP hD hS hl
  have hov : va_AO C (jS x) := by
    rcases hC with rfl | rfl
    · exact g11.2.1.1
    · exact g11.2.1.2.1
  refine va_newq g1 g2 g4 (g5 _ hcl) hov g6 hP hD hS g9 hn hN hbytes (by rw [g10]; exact hcells) (by rw [g10]; exact hslots) hd fun q cA H1 h0 h1 h2 h3 => ?_
  have e1 := (h0.2 (jT γ).length (cA, .object C) (by rw [List.getElem?_append_right (Nat.le_refl _), Nat.sub_self]; rfl)).2
  have e2 := (g6.2 i (cA0, .object C) hi).2
  have e3 : cA = cA0 := va_RA_uq e1 e2
  subst e3
  exact k q H1 locs ls h1 h2 h3 hl
theorem J.qast (g : jG γ x rm cc own ret) (q0 t0 qk ci k : Nat) {a n v : Nat} {cA : ClassId} {r : vw_C} {vs : List Value} {f : Nat → Option Nat} (ha : ws[q0]? = some (a, .inl (cA, n, .inr (.inr (.inr (.inr f)))))) (ht : (jT γ)[t0]? = some (cA, .object r.1)) (hv : ws[qk]? = some (v, .inr (ci, vs))) (hc : vwCl[ci]? = some r) (hk : k < n) (hn : n < 2 ^ 31) (hd : decode cc pc = .ok (.aastore, 1)) (kk : J γ l x (ws.set q0 (a, .inl (cA, n, .inr (.inr (.inr (.inr (va_up f k (some v)))))))) lv st cs sl (pc + 1)) : J γ l x ws lv (.ref v :: .int (nI k) :: .ref a :: st) cs sl pc := by
  intro H locs ls hP hD hS hl0
  refine va_astq g.1 g.2.1 g.2.2.2.2.2.1 hP hD hS q0 t0 qk ci ha ht hv hc (nI_in hk hn) hd (fun H1 locs1 hP1 hD1 hS1 => ?_)
  rw [nI_clamp (by omega)] at hP1 hD1
  exact kk H1 locs1 ls hP1 hD1 hS1 hl0
theorem J.qcong (q0 : Nat) {a n : Nat} {cA : ClassId} {f f' : Nat → Option Nat} (ha : ws[q0]? = some (a, .inl (cA, n, .inr (.inr (.inr (.inr f)))))) (h : ∀ i, i < n → f i = f' i) (k : J γ l x (ws.set q0 (a, .inl (cA, n, .inr (.inr (.inr (.inr f')))))) lv st cs sl pc) : J γ l x ws lv st cs sl pc := by
  intro H locs ls hP hD hS hl0
  refine k H locs ls (hP.set hD ha ?_ (fun _ _ => rfl)) (hD.set ha) hS hl0
  have h1 : H[a]? = some (vp_cell cA (n, .inr (.inr (.inr (.inr f))))) := hP q0 _ ha
  show H[a]? = some (vp_cell cA (n, .inr (.inr (.inr (.inr f')))))
  rw [h1, vp_cell_q, vp_cell_q]
  have : (Array.ofFn (n := n) fun j => va_rf (f j.val)) = Array.ofFn (n := n) fun j => va_rf (f' j.val) := by
    congr 1
    funext j
    rw [h j.val j.isLt]
  unfold arrV
  rw [this]
end
theorem va_D_app {A : Nat → Prop} {ws es : va_W} {D : va_G} {cl : List vw_C} {H : Heap} (hD : va_D A ws) (hP : va_P D cl ws H) (hl : ∀ i p, es[i]? = some p → p.1 = H.size + i) (hA : ∀ q, H.size ≤ q → A q) : va_D A (ws ++ es) := by
  have key : ∀ (k : Nat) (p : Nat × va_E), (ws ++ es)[k]? = some p → (k < ws.length ∧ ws[k]? = some p ∧ p.1 < H.size) ∨ (ws.length ≤ k ∧ p.1 = H.size + (k - ws.length)) := by
    intro k p hk
    by_cases q : k < ws.length
    · rw [List.getElem?_append_left q] at hk
      exact Or.inl ⟨q, hk, (hP k p hk).lt⟩
    · rw [List.getElem?_append_right (by omega)] at hk
      exact Or.inr ⟨by omega, hl _ _ hk⟩
  refine ⟨fun i j p q hi hj e => ?_, fun k q hk => ?_⟩
  · rcases key i p hi with ⟨a1, a2, a3⟩ | ⟨a1, a2⟩ <;> rcases key j q hj with ⟨b1, b2, b3⟩ | ⟨b1, b2⟩
    · exact hD.1 i j p q a2 b2 e
    · omega
    · omega
    · omega
  · rcases key k q hk with ⟨a1, a2, a3⟩ | ⟨a1, a2⟩
    · exact hD.2 k q a2
    · exact hA _ (by omega)
/-- the outer row, its first i places filled; the state, i inner rows made -/
def jmO (c : ClassId) (N h0 i : Nat) : Cell := arrV c N (fun j => if j < i then .ref (h0 + 1 + j) else .null)
def jmF (s : State) (c c0 : ClassId) (N M : Nat) : Nat → State
  | 0 => s.pushCell (jmO c N s.heap.size 0)
  | i + 1 => ((jmF s c c0 N M i).pushCell (arrV c0 M (fun _ => .int 0))).setCell s.heap.size (jmO c N s.heap.size (i + 1))
theorem jmO_set (c : ClassId) (N h0 i : Nat) : (jmO c N h0 i).setSlot i (.ref (h0 + 1 + i)) = jmO c N h0 (i + 1) := by
  unfold jmO
  rw [arrV_store]
  congr 1
  funext j
  unfold updV
  by_cases e : j = i
  · subst e
    rw [if_pos rfl, if_pos (by omega)]
  · rw [if_neg e]
    show (if j < i then (.ref (h0 + 1 + j) : Value) else .null) = _
    by_cases hj : j < i
    · rw [if_pos hj, if_pos (by omega)]
    · rw [if_neg hj, if_neg (by omega)]
theorem jmO_full (c : ClassId) (N h0 : Nat) : jmO c N h0 N = arrV c N (fun j => .ref (h0 + 1 + j)) := by
  have : (Array.ofFn (n := N) fun j => (if j.val < N then (.ref (h0 + 1 + j.val) : Value) else .null)) = Array.ofFn (n := N) fun j => (.ref (h0 + 1 + j.val) : Value) := by
    congr 1
    funext j
    rw [if_pos j.isLt]
  unfold jmO arrV
  rw [this]
theorem jmO_size (c : ClassId) (N h0 i : Nat) : (jmO c N h0 i).slots.size = N := arrV_size _ _ _
theorem jmF_at (s : State) (c c0 : ClassId) (N M : Nat) : ∀ i, (jmF s c c0 N M i).heap.size = s.heap.size + 1 + i ∧ (jmF s c c0 N M i).heap[s.heap.size]? = some (jmO c N s.heap.size i) ∧ (jmF s c c0 N M i).vm = s.vm ∧ (jmF s c c0 N M i).slotsUsed = s.slotsUsed + N + i * M
  | 0 => ⟨by simp [jmF], State.heap_pushCell_size _ _, rfl, by show s.slotsUsed + (jmO c N s.heap.size 0).slots.size = _; rw [jmO_size]; omega⟩
  | i + 1 => by
    obtain ⟨h1, h2, h3, h4⟩ := jmF_at s c c0 N M i
    have hlt : s.heap.size < (jmF s c c0 N M i).heap.size := by omega
    have h5 : ((jmF s c c0 N M i).pushCell (arrV c0 M (fun _ => .int 0))).heap[s.heap.size]? = some (jmO c N s.heap.size i) := by rw [State.heap_pushCell_of_lt (h := hlt)]; exact h2
    refine ⟨?_, State.heap_setCell_self h5, h3, ?_⟩
    · simp [jmF, State.setCell, h1]; omega
    · show (jmF s c c0 N M i).slotsUsed + (arrV c0 M (fun _ => .int 0)).slots.size = _
      rw [h4, arrV_size, Nat.succ_mul]; omega
theorem jmF_old (s : State) (c c0 : ClassId) (N M : Nat) {a : Addr} (ha : a < s.heap.size) : ∀ i, (jmF s c c0 N M i).heap[a]? = s.heap[a]?
  | 0 => State.heap_pushCell_of_lt _ _ ha
  | i + 1 => by
    have h1 := (jmF_at s c c0 N M i).1
    have hlt : a < (jmF s c c0 N M i).heap.size := Nat.lt_of_lt_of_le ha (by rw [h1]; omega)
    show (((jmF s c c0 N M i).pushCell _).setCell s.heap.size _).heap[a]? = _
    rw [State.heap_setCell_other (Nat.ne_of_gt ha), State.heap_pushCell_of_lt (h := hlt)]
    exact jmF_old s c c0 N M ha i
theorem jmF_in (s : State) (c c0 : ClassId) (N M : Nat) : ∀ i j, j < i → (jmF s c c0 N M i).heap[s.heap.size + 1 + j]? = some (arrV c0 M (fun _ => .int 0))
  | 0, _, h => absurd h (Nat.not_lt_zero _)
  | i + 1, j, h => by
    have h1 := (jmF_at s c c0 N M i).1
    show (((jmF s c c0 N M i).pushCell _).setCell s.heap.size _).heap[s.heap.size + 1 + j]? = _
    rw [State.heap_setCell_other (show s.heap.size ≠ s.heap.size + 1 + j by omega)]
    by_cases hj : j < i
    · have hlt : s.heap.size + 1 + j < (jmF s c c0 N M i).heap.size := by omega
      rw [State.heap_pushCell_of_lt (h := hlt)]
      exact jmF_in s c c0 N M i j hj
    · obtain rfl : j = i := by omega
      rw [← h1]
      exact State.heap_pushCell_size _ _
theorem jmF_top (s : State) (f : JFrame) (c c0 : ClassId) (N M : Nat) : ∀ i, jmF (s.setTop f) c c0 N M i = (jmF s c c0 N M i).setTop f
  | 0 => rfl
  | i + 1 => by simp only [jmF, jmF_top s f c c0 N M i, State.heap_setTop, State.pushCell_setTop, State.setCell_setTop]
section
variable {E : CtlPost} {e : Env} {d : Bool} {acts : List Action} {s : State}
theorem jm_new {c comp : ClassId} {k : Class} {type : FieldType} {len : Nat} {init : Value} (hk : s.vm.classes[c]? = some k) (hkind : k.kind = .array comp type) (hl : ¬ len > e.platform.arrayLengthLimit) (hh : ¬ len * componentBytes type > e.platform.maxHeapBytes) (hfit : fits type init = true) (hdef : init.isDefault = true) {Q : Addr → Pre}
    (h1 : s.heap.size < e.platform.maxCells) (h2 : s.slotsUsed + len ≤ e.platform.maxSlots) (hq : Q s.heap.size d acts (s.pushCell (arrV c len (fun _ => init)))) : wp (Jvm.newArray c len init) Q E e d acts s := by
  have hda : allocActs (Array.replicate len init) s.heap.size acts = acts := by
    unfold allocActs
    rw [if_pos (by rw [Array.all_replicate]; split <;> simp [hdef])]
  simp only [Jvm.newArray, Jvm.arrayFits, wp_bind', W.ask, W.ite, hl, if_false, wp_pure', W.theClass, hk, hkind, hh, W.alloc, W.stop, Option.some.injEq, exists_eq_left', Array.size_replicate, hda]
  rw [if_neg (by omega)]
  refine ⟨h1, h2, fun i v hv => ?_, by rw [arrV_new]; exact hq⟩
  simp only [Array.getElem?_replicate] at hv
  split at hv
  · cases hv; simp [State.fitsSlot, State.slotType?, hk, hkind, hfit]
  · cases hv
theorem jm_make1 {c0 c9 : ClassId} {kC : Class} {m : Int32} (hk : s.vm.classes[c0]? = some kC) (hkind : kC.kind = .array c9 .int) (hm : ¬ m < 0) (hl : ¬ m.toNatClampNeg > e.platform.arrayLengthLimit) (hh : ¬ m.toNatClampNeg * componentBytes .int > e.platform.maxHeapBytes)
    (h1 : s.heap.size < e.platform.maxCells) (h2 : s.slotsUsed + m.toNatClampNeg ≤ e.platform.maxSlots) {Q : Addr → Pre} (hq : Q s.heap.size d acts (s.pushCell (arrV c0 m.toNatClampNeg (fun _ => .int 0)))) : wp (Jvm.Op.multianewarray.make c0 [m]) Q E e d acts s := by
  rw [Jvm.Op.multianewarray.make]
  simp only [wp_bind', W.ite, hm, if_false, wp_pure', W.theClass, hk, hkind, Option.some.injEq, exists_eq_left']
  exact jm_new hk hkind hl hh rfl rfl h1 h2 hq
theorem jm_make2 {c c0 c9 : ClassId} {kA kC : Class} {n m : Int32} (hk : s.vm.classes[c]? = some kA) (hkind : kA.kind = .array c0 (.array .int)) (hkC : s.vm.classes[c0]? = some kC) (hkindC : kC.kind = .array c9 .int) (hn : ¬ n < 0) (hm : ¬ m < 0)
    (hl1 : ¬ n.toNatClampNeg > e.platform.arrayLengthLimit) (hh1 : ¬ n.toNatClampNeg * componentBytes (.array .int) > e.platform.maxHeapBytes) (hl2 : ¬ m.toNatClampNeg > e.platform.arrayLengthLimit) (hh2 : ¬ m.toNatClampNeg * componentBytes .int > e.platform.maxHeapBytes)
    (hc : s.heap.size + 1 + n.toNatClampNeg ≤ e.platform.maxCells) (hs : s.slotsUsed + n.toNatClampNeg + n.toNatClampNeg * m.toNatClampNeg ≤ e.platform.maxSlots)
    {Q : Addr → Pre} (hq : ∀ d' acts', Q s.heap.size d' acts' (jmF s c c0 n.toNatClampNeg m.toNatClampNeg n.toNatClampNeg)) : wp (Jvm.Op.multianewarray.make c [n, m]) Q E e d acts s := by
  obtain ⟨N, hN⟩ : ∃ N, N = n.toNatClampNeg := ⟨_, rfl⟩
  have hfind : ([m].find? (· < 0)) = none := by simp [hm]
  rw [Jvm.Op.multianewarray.make]
  simp only [wp_bind', W.ite, hn, if_false, wp_pure', W.theClass, hk, hkind, Option.some.injEq, exists_eq_left']
  rw [← hN] at hl1 hh1 hc hs hq ⊢
  have hmul := Nat.zero_le (N * m.toNatClampNeg)
  refine jm_new hk hkind hl1 hh1 rfl rfl (by omega) (by omega) ?_
  simp only [hfind]
  rw [ite_self, wp_bind', Std.Legacy.Range.forIn_eq_forIn_range']
  have hsz : ([:N] : Std.Legacy.Range).size = N := by simp [Std.Legacy.Range.size]
  rw [hsz]
  show wp (forIn (List.range' 0 N 1) PUnit.unit _) _ E e d acts _
  have e0 : s.pushCell (arrV c N (fun _ => .null)) = jmF s c c0 N m.toNatClampNeg 0 := rfl
  rw [e0]
  refine wp_forIn_inv (fun rest s' => ∃ i, i ≤ N ∧ rest = List.range' i (N - i) ∧ s' = jmF s c c0 N m.toNatClampNeg i) _ _ ⟨0, Nat.zero_le _, rfl, rfl⟩ ?_ ?_
  · rintro x rest s' d' acts' Q' ⟨i, hi, hl, rfl⟩ hnext
    by_cases hlt : i < N
    · rw [show N - i = (N - (i + 1)) + 1 from by omega, List.range'_succ] at hl
      obtain ⟨rfl, hrest⟩ := List.cons.inj hl
      obtain ⟨f1, f2, f3, f4⟩ := jmF_at s c c0 N m.toNatClampNeg x
      have h9 : x * m.toNatClampNeg + m.toNatClampNeg ≤ N * m.toNatClampNeg := by
        have := Nat.mul_le_mul_right m.toNatClampNeg (show x + 1 ≤ N from hlt)
        rw [Nat.succ_mul] at this
        exact this
      have hlt0 : s.heap.size < (jmF s c c0 N m.toNatClampNeg x).heap.size := by rw [f1]; omega
      simp only [wp_bind']
      refine jm_make1 (by rw [f3]; exact hkC) hkindC hm hl2 hh2 (by rw [f1]; omega) (by rw [f4]; omega) ?_
      simp only [wp_bind', W.writeLoc, wp_pure']
      refine ⟨jmO c N s.heap.size x, by rw [State.heap_pushCell_of_lt (h := hlt0)]; exact f2, (fun z => by cases z), by rw [jmO_size]; exact hlt, ?_, hnext _ _ _ ⟨x + 1, hlt, hrest, ?_⟩⟩
      · show State.fitsSlot _ c .none x (.ref _) = true
        simp [State.fitsSlot, State.slotType?, f3, hk, hkind, fits]
      · rw [f1, jmO_set]
        rfl
    · rw [show N - i = 0 from by omega] at hl
      cases hl
  · rintro s' d' acts' ⟨i, hi, hl, rfl⟩
    by_cases hlt : i < N
    · rw [show N - i = (N - (i + 1)) + 1 from by omega, List.range'_succ] at hl
      cases hl
    · obtain rfl : i = N := by omega
      simp only [wp_pure']
      exact hq _ _
end
section
variable {p : Program} {l : Launch} {e : Env} {R : Room} {s : State} {m : MethodId} {args : Array Value} {below : List Frame} {meth : Method} {c : Code} {T : State} {locs : List Loc} {cells slots : Nat}
theorem jm_stand (X : Stand p l e R s m args below meth c T locs cells slots) (cA c0 : ClassId) (N M : Nat) : ∀ i, Stand p l e R s m args below meth c (jmF T cA c0 N M i) (locs ++ (List.range i).map fun j => ⟨T.heap.size, j⟩) (cells + 1 + i) (slots + N + i * M)
  | 0 => by
    have h := X.pushed (jmO cA N T.heap.size 0)
    rw [jmO_size] at h
    simpa [jmF] using h
  | i + 1 => by
    have Xi := jm_stand X cA c0 N M i
    obtain ⟨f1, f2, f3, f4⟩ := jmF_at T cA c0 N M i
    have hlt0 : T.heap.size < (jmF T cA c0 N M i).heap.size := by rw [f1]; omega
    have hcell : ((jmF T cA c0 N M i).pushCell (arrV c0 M (fun _ => .int 0))).heap[T.heap.size]? = some (jmO cA N T.heap.size i) := by rw [State.heap_pushCell_of_lt (h := hlt0)]; exact f2
    have h := (Xi.pushed (arrV c0 M (fun _ => .int 0))).stored hcell i (.ref (T.heap.size + 1 + i))
    rw [arrV_size, jmO_set] at h
    have e2 : (locs ++ (List.range (i + 1)).map fun j => (⟨T.heap.size, j⟩ : Loc)) = (locs ++ (List.range i).map fun j => (⟨T.heap.size, j⟩ : Loc)) ++ [⟨T.heap.size, i⟩] := by simp [List.range_succ, List.append_assoc]
    have e3 : slots + N + (i + 1) * M = slots + N + i * M + M := by rw [Nat.succ_mul]; omega
    rw [e2, e3]
    exact h
end
section
variable {p : Program} {l : Launch} {e : Env} {R : Room} {s : State} {m : MethodId} {args : Array Value} {below : List Frame} {meth : Method} {c : Code} {H : Heap} {locs : List Loc} {cells slots : Nat}
variable {Q : State → Prop} {cc : ByteArray} {pc : Nat} {ls : Array Slot} {rest : List Value}
set_option maxHeartbeats 4000000 in
/-- two dimensions at once -/
theorem jW_multi (hexec : p.tables.exec = Jvm.exec) (hb : c.code = cc) {own : String} {index : Nat} {c4 c0 c9 : ClassId} {kA kC : Class} (hown : s.vm.findClass own = some m.cls) (hclink : (Cond.classLink own index "[[I").before args s = true) (hname : s.vm.findClass "[[I" = some c4) (hkA : s.vm.classes[c4]? = some kA) (hkindA : kA.kind = .array c0 (.array .int)) (hkC : s.vm.classes[c0]? = some kC) (hkindC : kC.kind = .array c9 .int)
    {n k : Int32} (hn : ¬ n < 0) (hk : ¬ k < 0) (hb1 : n.toNatClampNeg * 4 ≤ 536870912) (hb2 : k.toNatClampNeg * 4 ≤ 536870912) (hdg : decode cc pc = .ok (.multianewarray index 2, 4)) (hcells : cells + (1 + n.toNatClampNeg) ≤ R.cells) (hslots : slots + (n.toNatClampNeg + n.toNatClampNeg * k.toNatClampNeg) ≤ R.slots)
    (kk : ∀ H1 : Heap, H1.size = H.size + 1 + n.toNatClampNeg → (∀ a : Nat, a < H.size → H1[a]? = H[a]?) → H1[H.size]? = some (arrV c4 n.toNatClampNeg (fun j => .ref (H.size + 1 + j))) → (∀ j, j < n.toNatClampNeg → H1[H.size + 1 + j]? = some (arrV c0 k.toNatClampNeg (fun _ => .int 0))) → W p l e R s m args below meth c H1 locs (cells + (1 + n.toNatClampNeg)) (slots + (n.toNatClampNeg + n.toNatClampNeg * k.toNatClampNeg)) Q (F0 m (pc + 4) ls (.ref H.size :: rest))) :
    W p l e R s m args below meth c H locs cells slots Q (F0 m pc ls (.int k :: .int n :: rest)) := by
  intro T hT X
  subst hT
  have hpl : e.platform.magicAccessors = ({} : Platform).magicAccessors := by rw [X.admits.platform]
  obtain ⟨c8, hfc0, hcl⟩ := Cond.classLink_spec hown hclink e.platform hpl
  cases hname.symm.trans hfc0
  obtain ⟨hg₁, hwarm₁, hready₁⟩ := State.classEntry (e := e) X.warmed hcl
  generalize T.vm.noted m.cls index (.cls c4) = vm₁ at hg₁ hwarm₁ hready₁
  have hal : s.vm.Alike vm₁ := hwarm₁.alike
  obtain ⟨kA₁, hkA₁, heA⟩ := hal.2.2 _ _ hkA
  obtain ⟨kC₁, hkC₁, heC⟩ := hal.2.2 _ _ hkC
  have hkindA₁ : kA₁.kind = .array c0 (.array .int) := by rw [heA]; exact hkindA
  have hkindC₁ : kC₁.kind = .array c9 .int := by rw [heC]; exact hkindC
  have X₁ := X.noted hwarm₁
  obtain ⟨hr1, hr2⟩ := X.roomAbove hcells hslots
  have XF := jm_stand X₁ c4 c0 n.toNatClampNeg k.toNatClampNeg n.toNatClampNeg
  have XG := XF.dropFresh (fun z hz => by
    obtain ⟨j, -, rfl⟩ := List.mem_map.mp hz
    exact X.heapGrown)
  have f0 := jmF_at (T.setVm vm₁) c4 c0 n.toNatClampNeg k.toNatClampNeg n.toNatClampNeg
  have f1 := fun (a : Addr) (ha : a < T.heap.size) => jmF_old (T.setVm vm₁) c4 c0 n.toNatClampNeg k.toNatClampNeg ha n.toNatClampNeg
  have f2 := jmF_in (T.setVm vm₁) c4 c0 n.toNatClampNeg k.toNatClampNeg n.toNatClampNeg
  obtain ⟨t, a1, b1⟩ := kk _ f0.1 f1 (by rw [← jmO_full]; exact f0.2.1) (fun j hj => f2 j hj) _ rfl (by rw [← Nat.add_assoc, ← Nat.add_assoc]; exact XG)
  refine ⟨t, ?_, b1⟩
  have hl1 : ¬ n.toNatClampNeg > e.platform.arrayLengthLimit := by rw [Launch.admits_arrayLengthLimit X.admits]; omega
  have hh1 : ¬ n.toNatClampNeg * componentBytes (.array .int) > e.platform.maxHeapBytes := by
    rw [Launch.admits_maxHeapBytes X.admits]; show ¬ n.toNatClampNeg * 4 > 536870912; omega
  have hl2 : ¬ k.toNatClampNeg > e.platform.arrayLengthLimit := by rw [Launch.admits_arrayLengthLimit X.admits]; omega
  have hh2 : ¬ k.toNatClampNeg * componentBytes .int > e.platform.maxHeapBytes := by
    rw [Launch.admits_maxHeapBytes X.admits]; show ¬ k.toNatClampNeg * 4 > 536870912; omega
  subst hb
  have hdg' : decode c.code (F0 m pc ls (.int k :: .int n :: rest)).pc = .ok (.multianewarray index 2, 4) := hdg
  jvm_step X.here [hexec, hdg']
  simp only [Jvm.Op.multianewarray.sem, wp_bind', W.resolveClassAt_links (State.method?_setTop (F0 m pc ls (.int k :: .int n :: rest)) X.here.top) hg₁]
  rw [W.popN, if_neg (by decide)]
  refine ⟨F0 m pc ls (.int k :: .int n :: rest), State.topJava?_setTop' (s := T.setVm vm₁) _ X.here.top, [.int n, .int k], rest, rfl, rfl, ?_⟩
  simp only [List.mapM_cons, List.mapM_nil, wp_bind', wp_pure']
  refine jm_make2 hkA₁ hkindA₁ hkC₁ hkindC₁ hn hk hl1 hh1 hl2 hh2 (by show T.heap.size + 1 + _ ≤ _; omega) (by show T.slotsUsed + _ + _ ≤ _; omega) (fun d' acts' => ?_)
  have eS : ((T.setTop (F0 m pc ls (.int k :: .int n :: rest))).setVm vm₁).setTop { F0 m pc ls (.int k :: .int n :: rest) with stack := rest } = (T.setVm vm₁).setTop { F0 m pc ls (.int k :: .int n :: rest) with stack := rest } := by
    show ((T.setVm vm₁).setTop _).setTop _ = _
    rw [State.setTop_setTop]
  rw [eS, jmF_top]
  simp only [wp_bind', W.mark, W.pushRef, State.topJava?_setTop' _ XF.here.top, Option.some.injEq, exists_eq_left', State.setTop_setTop, State.heap_setTop]
  intro acts
  simp [jvm, XF.here.top]
  exact a1
end
section
variable {γ : jγ} {l : Launch} {x : jE} {ws : va_W} {lv : List (Option Value)} {st : List Value} {cs sl pc : Nat}
variable {rm : Room} {cc : ByteArray} {own : String} {ret : Option FieldType}
theorem J.multi (g : jG γ x rm cc own ret) {ix N M : Nat} (hd : decode cc pc = .ok (.multianewarray ix 2, 4)) (hcl : Cond.classLink own ix "[[I" ∈ jTT) (hN : N < 1000) (hM : M < 1000) (hcells : cs + (1 + N) ≤ rm.cells) (hslots : sl + (N + N * M) ≤ rm.slots)
    (k : ∀ (q : Nat) (ad : Nat → Nat), J γ l x (ws ++ ((q, .inl (γ.2 4, N, .inr (.inr (.inr (.inr (fun i => some (ad i))))))) :: jrows γ ad N M (fun _ _ => 0))) lv (.ref q :: st) (cs + (1 + N)) (sl + (N + N * M)) (pc + 4)) : J γ l x ws lv (.int (nI M) :: .int (nI N) :: st) cs sl pc := by
  obtain ⟨g1, g2, g3, g4, g5, g6, g7, g8, g9, g10, g11⟩ := g
  intro H locs ls hP hD hS hl
  obtain ⟨kA, z1, z2⟩ := g11.2.1.2.2
  have e4 := g6.2 4 (γ.2 4, .array .int) rfl
  have e0 := g6.2 0 (γ.2 0, .int) rfl
  obtain ⟨-, kC, z3, c9, z4⟩ := e0.1 0 (fun _ => .null)
  have cN : (nI N).toNatClampNeg = N := nI_clamp (by omega)
  have cM : (nI M).toNatClampNeg = M := nI_clamp (by omega)
  refine jW_multi g1 g2 g4 (g5 _ hcl) e4.2 z1 z2 z3 z4 (nI_pos (by omega)) (nI_pos (by omega)) (by rw [cN]; omega) (by rw [cM]; omega) hd (by rw [g10, cN]; exact hcells) (by rw [g10, cN, cM]; exact hslots) (fun H1 y1 y2 y3 y4 => ?_)
  rw [cN] at y1 y3 y4 ⊢
  rw [cM] at y4 ⊢
  have hk : ∀ (k : Nat) (q : Nat × va_E), ws[k]? = some q → H1[q.1]? = H[q.1]? := fun k q hq => y2 q.1 ((hP k q hq).lt)
  have hat : ∀ (i : Nat) (q : Nat × va_E), ((H.size, (.inl (γ.2 4, N, .inr (.inr (.inr (.inr (fun i => some (H.size + 1 + i)))))) : va_E)) :: jrows γ (fun i => H.size + 1 + i) N M (fun _ _ => 0))[i]? = some q → q.1 = H.size + i ∧ va_at γ.1 vwCl q H1 := by
    intro i q hq
    cases i with
    | zero =>
      simp only [List.getElem?_cons_zero, Option.some.injEq] at hq
      subst hq
      exact ⟨rfl, y3⟩
    | succ i =>
      rw [List.getElem?_cons_succ] at hq
      unfold jrows at hq
      rw [List.getElem?_map] at hq
      by_cases hi : i < N
      · rw [List.getElem?_range hi, Option.map_some] at hq
        have hq := (Option.some.inj hq).symm
        subst hq
        refine ⟨by show H.size + 1 + i = H.size + (i + 1); omega, ?_⟩
        exact y4 i hi
      · rw [List.getElem?_eq_none (by rw [List.length_range]; omega)] at hq
        cases hq
  exact k H.size (fun i => H.size + 1 + i) H1 locs ls ((hP.kept hk).app (fun i q hq => (hat i q hq).2)) (va_D_app hD hP (fun i q hq => (hat i q hq).1) (fun q hq => g9 q (Nat.le_trans hS.1 hq))) ⟨Nat.le_trans hS.1 (by omega), fun q h1 h2 => (y2 q (Nat.lt_of_lt_of_le h1 hS.1)).trans (hS.2.1 q h1 h2), hS.2.2⟩ hl
end
