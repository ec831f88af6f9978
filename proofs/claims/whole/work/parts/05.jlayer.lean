/-- locals by their places -/
def lvl : Nat → List (Option Value) → List (Nat × Value)
  | _, [] => []
  | k, none :: r => lvl (k + 1) r
  | k, some v :: r => (k, v) :: lvl (k + 1) r
theorem lvl_in : ∀ (lv : List (Option Value)) (k i : Nat) (v : Value), lv[i]? = some (some v) → (k + i, v) ∈ lvl k lv
  | [], _, _, _, h => by simp at h
  | none :: r, k, 0, v, h => by simp at h
  | none :: r, k, i + 1, v, h => by
    have := lvl_in r (k + 1) i v (by simpa using h)
    rw [show k + (i + 1) = k + 1 + i by omega]; exact this
  | some x :: r, k, 0, v, h => by
    have : x = v := by simpa using h
    subst this
    exact List.mem_cons_self
  | some x :: r, k, i + 1, v, h => by
    have := lvl_in r (k + 1) i v (by simpa using h)
    rw [show k + (i + 1) = k + 1 + i by omega]; exact List.mem_cons_of_mem _ this
theorem lvl_out : ∀ (lv : List (Option Value)) (k j : Nat) (v : Value), (j, v) ∈ lvl k lv → ∃ i, j = k + i ∧ lv[i]? = some (some v)
  | [], _, _, _, h => by cases h
  | none :: r, k, j, v, h => by
    obtain ⟨i, h1, h2⟩ := lvl_out r (k + 1) j v h
    exact ⟨i + 1, by omega, by simpa using h2⟩
  | some x :: r, k, j, v, h => by
    rcases List.mem_cons.mp h with h | h
    · obtain ⟨rfl, rfl⟩ := Prod.mk.inj h
      exact ⟨0, rfl, rfl⟩
    · obtain ⟨i, h1, h2⟩ := lvl_out r (k + 1) j v h
      exact ⟨i + 1, by omega, by simpa using h2⟩
def lvx (ls : Array Slot) (n : Nat) (lv : List (Option Value)) : Prop := lv.length ≤ n ∧ lv_has ls n (lvl 0 lv)
theorem lvx.get {ls : Array Slot} {n : Nat} {lv : List (Option Value)} (h : lvx ls n lv) {i : Nat} {v : Value} (hl : lv[i]? = some (some v)) : ls[i]? = some (.val v) := by
  have := h.2.2.2 _ (lvl_in lv 0 i v hl)
  simpa using this
/-- no long, no double among them -/
def jc : List (Option Value) → Bool
  | [] => true
  | none :: r => jc r
  | some v :: r => (v.category == 1) && jc r
theorem jc_at : ∀ (lv : List (Option Value)) (i : Nat) (v : Value), jc lv = true → lv[i]? = some (some v) → v.category = 1
  | [], _, _, _, h => by simp at h
  | none :: r, 0, v, _, h => by simp at h
  | none :: r, i + 1, v, hc, h => jc_at r i v hc (by simpa using h)
  | some x :: r, 0, v, hc, h => by
    have : x = v := by simpa using h
    subst this
    have := hc
    simp only [jc, Bool.and_eq_true, beq_iff_eq] at this
    exact this.1
  | some x :: r, i + 1, v, hc, h => by
    have h2 := hc
    simp only [jc, Bool.and_eq_true] at h2
    exact jc_at r i v h2.2 (by simpa using h)
theorem lvx.set {ls ls' : Array Slot} {n : Nat} {lv : List (Option Value)} {i : Nat} {v : Value} (h : lvx ls n lv) (hc : jc lv = true)
    (h2 : lv_has ls' n ((i, v) :: (lvl 0 lv).filter (fun q => !(q.1 == i) && !(q.1 + 1 == i && q.2.category == 2)))) : lvx ls' n (lv.set i (some v)) := by
  refine ⟨by rw [List.length_set]; exact h.1, h2.1, h2.2.1, fun q hq => ?_⟩
  obtain ⟨j, hj, hv⟩ := lvl_out _ 0 q.1 q.2 hq
  have hj : q.1 = j := by omega
  refine h2.2.2 q ?_
  by_cases hij : i = j
  · subst hij
    rw [List.getElem?_set] at hv
    by_cases hlt : i < lv.length
    · simp [hlt] at hv
      obtain ⟨q1, q2⟩ := q
      simp only at hj hv
      subst hj; subst hv
      exact List.mem_cons_self
    · simp [hlt] at hv
  · rw [List.getElem?_set_ne hij] at hv
    refine List.mem_cons_of_mem _ (List.mem_filter.mpr ⟨?_, ?_⟩)
    · have := lvl_in lv 0 j q.2 hv
      rw [Nat.zero_add, ← hj] at this
      exact this
    · have h1 := jc_at lv j q.2 hc hv
      have h3 : ¬ q.1 = i := by rw [hj]; exact fun h => hij h.symm
      simp [h1, h3]
theorem lvx.lt {ls : Array Slot} {n : Nat} {lv : List (Option Value)} (h : lvx ls n lv) {i : Nat} (hi : (lv[i]?).isSome = true) : i < n := by
  have : i < lv.length := by
    rcases Nat.lt_or_ge i lv.length with q | q
    · exact q
    · rw [List.getElem?_eq_none q] at hi; cases hi
  exact Nat.lt_of_lt_of_le this h.1
theorem lvx.sub {ls : Array Slot} {n : Nat} {lv lv' : List (Option Value)} (h : lvx ls n lv) (hn : lv'.length ≤ lv.length) (hs : ∀ (i : Nat) (v : Value), lv'[i]? = some (some v) → lv[i]? = some (some v)) : lvx ls n lv' := by
  refine ⟨Nat.le_trans hn h.1, h.2.1, h.2.2.1, fun q hq => ?_⟩
  obtain ⟨j, hj, hv⟩ := lvl_out _ 0 q.1 q.2 hq
  have := h.get (hs j q.2 hv)
  rw [show q.1 = j by omega]; exact this
def lve : List Value → List (Option Value)
  | [] => []
  | v :: r => if v.category = 2 then some v :: none :: lve r else some v :: lve r
theorem lve_in : ∀ (vs : List Value) (k j : Nat) (v : Value), (j, v) ∈ lvl k (lve vs) → (j, v) ∈ lv_args k vs
  | [], _, _, _, h => by cases h
  | x :: r, k, j, v, h => by
    unfold lve at h
    by_cases hx : x.category = 2
    · rw [if_pos hx] at h
      rcases List.mem_cons.mp h with h | h
      · rw [h]; exact List.mem_cons_self
      · have := lve_in r (k + 2) j v h
        unfold lv_args
        rw [if_pos hx]
        exact List.mem_cons_of_mem _ this
    · rw [if_neg hx] at h
      rcases List.mem_cons.mp h with h | h
      · rw [h]; exact List.mem_cons_self
      · have := lve_in r (k + 1) j v h
        unfold lv_args
        rw [if_neg hx]
        exact List.mem_cons_of_mem _ this
theorem lvl_pad : ∀ (a : List (Option Value)) (n k j : Nat) (v : Value), (j, v) ∈ lvl k (a ++ List.replicate n none) → (j, v) ∈ lvl k a
  | [], 0, k, j, v, h => h
  | [], n + 1, k, j, v, h => by
    have := lvl_pad [] n (k + 1) j v (by simpa [List.replicate_succ, lvl] using h)
    cases this
  | none :: r, n, k, j, v, h => lvl_pad r n (k + 1) j v h
  | some x :: r, n, k, j, v, h => by
    rcases List.mem_cons.mp h with h | h
    · rw [h]; exact List.mem_cons_self
    · exact List.mem_cons_of_mem _ (lvl_pad r n (k + 1) j v h)
theorem lve_len : ∀ vs : List Value, (lve vs).length = (lg_sl vs).length
  | [] => rfl
  | v :: r => by
    have := lve_len r
    unfold lve
    unfold lg_sl at this ⊢
    by_cases hx : v.category = 2
    · simp [hx, this]
    · simp [hx, this]
def lvs (vs : List Value) (n : Nat) : List (Option Value) := lve vs ++ List.replicate (n - (lve vs).length) none
theorem lvx_entry (vs : List Value) {n : Nat} (h : (lve vs).length ≤ n) : lvx ((lg_sl vs ++ List.replicate (n - (lg_sl vs).length) Slot.unset).toArray) n (lvs vs n) := by
  have h1 := lv_entry vs (n := n) (by rw [← lve_len]; exact h)
  refine ⟨by unfold lvs; simp; omega, h1.1, h1.2.1, fun q hq => h1.2.2 q ?_⟩
  exact lve_in vs 0 q.1 q.2 (lvl_pad _ _ 0 q.1 q.2 hq)
/-- all that stays through a method: machine, start, frame, room, what it may change, its end -/
abbrev jE : Type := Program × Env × Room × State × MethodId × Array Value × List Frame × Method × Code × (Nat → Prop) × Nat × (State → Prop)
abbrev jp (x : jE) : Program := x.1
abbrev je (x : jE) : Env := x.2.1
abbrev jR (x : jE) : Room := x.2.2.1
abbrev jS (x : jE) : State := x.2.2.2.1
abbrev jm (x : jE) : MethodId := x.2.2.2.2.1
abbrev ja (x : jE) : Array Value := x.2.2.2.2.2.1
abbrev jb (x : jE) : List Frame := x.2.2.2.2.2.2.1
abbrev jmt (x : jE) : Method := x.2.2.2.2.2.2.2.1
abbrev jcd (x : jE) : Code := x.2.2.2.2.2.2.2.2.1
abbrev jA (x : jE) : Nat → Prop := x.2.2.2.2.2.2.2.2.2.1
abbrev jN (x : jE) : Nat := x.2.2.2.2.2.2.2.2.2.2.1
abbrev jQ (x : jE) : State → Prop := x.2.2.2.2.2.2.2.2.2.2.2
/-- calls of nest mates: who, where, whom, host -/
def jNL : List (String × Nat × MethodName × String) := [(RX10, 11, yX5_init, RX10), (RX5, 11, yX9_init, RX10), (RX5, 48, yX6_init, RX10), (RX10, 25, yX0_init, RX10), (RX10, 32, yX6_init, RX10), (RX4, 24, yX6_init, RX10), (RX10, 56, yX1_init, RX10), (RX1, 9, yX6_init, RX10), (RX10, 59, yX8_init, RX10), (RX10, 66, yX7_init, RX10), (RX10, 73, yX3_init, RX10), (RX3, 23, yX6_init, RX10), (RX10, 80, yX2_init, RX10), (RX2, 17, yX6_init, RX10)]
/-- the texts -/
def jKS : List (String × Nat × String) := [(RX5, 122, "group"), (RX5, 128, "put"), (RX5, 130, "times"), (RX10, 168, "no such sub-row")]
def jKb : List (List Int32) := [[103, 114, 111, 117, 112], [112, 117, 116], [116, 105, 109, 101, 115], [110, 111, 32, 115, 117, 99, 104, 32, 115, 117, 98, 45, 114, 111, 119]]
/-- the class of rows of int rows has the class of int rows as its elements' -/
def va_AA (c4 c0 : ClassId) (U : State) : Prop := ∃ kA : Class, U.vm.classes[c4]? = some kA ∧ kA.kind = .array c0 (.array .int)
theorem va_AA.moved {u U : State} (hvm : u.vm.Alike U.vm) {c4 c0 : ClassId} (h : va_AA c4 c0 u) : va_AA c4 c0 U := by
  obtain ⟨kA, h1, h2⟩ := h
  obtain ⟨k', hk', he⟩ := hvm.2.2 _ _ h1
  exact ⟨k', hk', by rw [he]; exact h2⟩
/-- what a method may read beside its world: words of nest mates, texts, statics -/
def jXX (γ : jγ) (A : Nat → Prop) (U : State) (H : Heap) : Prop :=
  (∀ q ∈ jNL, va_Nw (.methodLinkNest q.1 q.2.1 q.2.2.1 q.2.2.2) U) ∧ (va_AO "NoughtSums$Row" U ∧ va_AO "NoughtSums$Image" U ∧ va_AA (γ.2 4) (γ.2 0) U) ∧ vk_S 4 (jKb.map List.length) jKb (fun i => γ.2 (100 + i)) (fun i => γ.2 (200 + i)) A U H ∧ (∀ (i : Nat) (q : String × Nat × String), jKS[i]? = some q → vk_R q.1 q.2.1 q.2.2 (γ.2 (100 + i)) U) ∧ va_Z "java/lang/String" "COMPACT_STRINGS" "Z" (.int 1) A U H ∧ (∃ r : Value, (r = .null ∨ ∃ t : Nat, r = .ref t) ∧ va_Z "jdk/internal/util/Preconditions" "SIOOBE_FORMATTER" "Ljava/util/function/BiFunction;" r A U H)
theorem jXX.warm {γ : jγ} {A : Nat → Prop} {s U : State} {H : Heap} (hW : s.WarmedH U.vm) (h : jXX γ A s H) : jXX γ A U H := by
  obtain ⟨h1, h2, h3, h4, h5, r, h6⟩ := h
  exact ⟨fun q hq => va_Nw.warmM hW (h1 q hq), ⟨va_AO.moved hW.alike h2.1, va_AO.moved hW.alike h2.2.1, va_AA.moved hW.alike h2.2.2⟩, vk_S.moved hW.alike h3, fun i q hq => vk_R.warm hW (h4 i q hq), va_Z.moved hW.alike h5, r, h6.1, va_Z.moved hW.alike h6.2⟩
theorem jXX.same {γ : jγ} {A : Nat → Prop} {u U : State} {H : Heap} (hv : u.vm = U.vm) (h : jXX γ A u H) : jXX γ A U H := by
  obtain ⟨h1, h2, h3, h4, h5, r, h6⟩ := h
  have ha : u.vm.Alike U.vm := hv ▸ Vm.Alike.refl u.vm
  exact ⟨fun q hq => va_Nw.same rfl hv (h1 q hq), ⟨va_AO.moved ha h2.1, va_AO.moved ha h2.2.1, va_AA.moved ha h2.2.2⟩, vk_S.moved ha h3, fun i q hq => vk_R.same hv.symm (h4 i q hq), va_Z.moved ha h5, r, h6.1, va_Z.moved ha h6.2⟩
theorem jXX.kept {γ : jγ} {A : Nat → Prop} {U : State} {H H1 : Heap} (h : jXX γ A U H) (hq : ∀ a : Nat, a < H.size → ¬ A a → H1[a]? = H[a]?) : jXX γ A U H1 := by
  obtain ⟨h1, h2, h3, h4, h5, r, h6⟩ := h
  exact ⟨h1, h2, h3.kept hq, h4, h5.kept hq, r, h6.1, h6.2.kept hq⟩
theorem jXX.narrow {γ : jγ} {A B : Nat → Prop} {U : State} {H : Heap} (h : jXX γ A U H) (hAB : ∀ q, B q → A q) : jXX γ B U H := by
  obtain ⟨h1, h2, h3, h4, h5, r, h6⟩ := h
  exact ⟨h1, h2, h3.narrow hAB, h4, h5.narrow hAB, r, h6.1, h6.2.narrow hAB⟩
/-- what holds through a whole method -/
def jG (γ : jγ) (x : jE) (rm : Room) (cc : ByteArray) (own : String) (ret : Option FieldType) : Prop :=
  (jp x).tables.exec = Jvm.exec ∧ (jcd x).code = cc ∧ (jcd x).maxLocals = jN x ∧ (jS x).vm.findClass own = some (jm x).cls ∧ (∀ w ∈ jTT, w.before (ja x) (jS x) = true) ∧ va_K γ.1 vwCl (jT γ) (jS x) ∧ (jmt x).sig.returnType = ret ∧ (jmt x).locks = false ∧ (∀ q : Nat, (jS x).heap.size ≤ q → jA x q) ∧ jR x = rm ∧ jXX γ (jA x) (jS x) (jS x).heap
/-- from the world ws, the locals lv, the stack st, with cs cells of sl slots made, at pc: the machine comes to its end -/
def J (γ : jγ) (l : Launch) (x : jE) (ws : va_W) (lv : List (Option Value)) (st : List Value) (cs sl pc : Nat) : Prop :=
  ∀ (H : Heap) (locs : List Loc) (ls : Array Slot), va_P γ.1 vwCl ws H → va_D (jA x) ws → va_S (jA x) (jS x).heap H locs → lvx ls (jN x) lv → W (jp x) l (je x) (jR x) (jS x) (jm x) (ja x) (jb x) (jmt x) (jcd x) H locs cs sl (jQ x) (F0 (jm x) pc ls st)
section

variable {γ : jγ} {l : Launch} {x : jE} {ws : va_W} {lv : List (Option Value)} {st : List Value} {cs sl pc : Nat}
variable {rm : Room} {cc : ByteArray} {own : String} {ret : Option FieldType}

theorem J.eqws {ws' : va_W} (h : ws = ws') (k : J γ l x ws' lv st cs sl pc) : J γ l x ws lv st cs sl pc := h ▸ k
theorem J.lvsub {lv' : List (Option Value)} (hn : lv'.length ≤ lv.length) (hs : ∀ (i : Nat) (v : Value), lv'[i]? = some (some v) → lv[i]? = some (some v)) (k : J γ l x ws lv' st cs sl pc) : J γ l x ws lv st cs sl pc := fun H locs ls hP hD hS hl => k H locs ls hP hD hS (hl.sub hn hs)
theorem J.widen {cs' sl' : Nat} (h1 : cs ≤ cs') (h2 : sl ≤ sl') (k : J γ l x ws lv st cs' sl' pc) : J γ l x ws lv st cs sl pc := fun H locs ls hP hD hS hl => W.widen h1 h2 (k H locs ls hP hD hS hl)
theorem J.iconst (g : jG γ x rm cc own ret) {n : Int} {v : Int32} (hd : decode cc pc = .ok (.iconst n, 1)) (hv : Int32.ofInt n = v) (k : J γ l x ws lv (.int v :: st) cs sl (pc + 1)) : J γ l x ws lv st cs sl pc := fun H locs ls hP hD hS hl0 => lv_iconst g.1 g.2.1 hd hv (k H locs ls hP hD hS hl0)
theorem J.bipush (g : jG γ x rm cc own ret) {n : Int} {v : Int32} (hd : decode cc pc = .ok (.bipush n, 2)) (hv : (Int8.ofInt n).toInt32 = v) (k : J γ l x ws lv (.int v :: st) cs sl (pc + 2)) : J γ l x ws lv st cs sl pc := fun H locs ls hP hD hS hl0 => lv_bipush g.1 g.2.1 hd hv (k H locs ls hP hD hS hl0)
theorem J.sipush (g : jG γ x rm cc own ret) {n : Int} {v : Int32} (hd : decode cc pc = .ok (.sipush n, 3)) (hv : (Int16.ofInt n).toInt32 = v) (k : J γ l x ws lv (.int v :: st) cs sl (pc + 3)) : J γ l x ws lv st cs sl pc := fun H locs ls hP hD hS hl0 => lv_sipush g.1 g.2.1 hd hv (k H locs ls hP hD hS hl0)
theorem J.lconst (g : jG γ x rm cc own ret) {n : Fin 2} {v : Int64} (hd : decode cc pc = .ok (.lconst n, 1)) (hv : Int64.ofNat (n : Nat) = v) (k : J γ l x ws lv (.long v :: st) cs sl (pc + 1)) : J γ l x ws lv st cs sl pc := fun H locs ls hP hD hS hl0 => lv_lconst g.1 g.2.1 hd hv (k H locs ls hP hD hS hl0)
theorem J.null (g : jG γ x rm cc own ret) (hd : decode cc pc = .ok (.aconst_null, 1)) (k : J γ l x ws lv (.null :: st) cs sl (pc + 1)) : J γ l x ws lv st cs sl pc := fun H locs ls hP hD hS hl0 => lv_null g.1 g.2.1 hd (k H locs ls hP hD hS hl0)
theorem J.ldc (g : jG γ x rm cc own ret) {ix : Nat} {v : Int32} (hw : Cond.constant own ix v ∈ jTT) (hd : decode cc pc = .ok (.ldc ix, 2)) (k : J γ l x ws lv (.int v :: st) cs sl (pc + 2)) : J γ l x ws lv st cs sl pc := fun H locs ls hP hD hS hl0 => lv_ldc g.1 g.2.1 g.2.2.2.1 (g.2.2.2.2.1 _ hw) hd (k H locs ls hP hD hS hl0)
theorem J.ldc2 (g : jG γ x rm cc own ret) {ix : Nat} {v : Int64} (hw : Cond.constantLong own ix v ∈ jTT) (hd : decode cc pc = .ok (.ldc2_w ix, 3)) (k : J γ l x ws lv (.long v :: st) cs sl (pc + 3)) : J γ l x ws lv st cs sl pc := fun H locs ls hP hD hS hl0 => lv_ldc2 g.1 g.2.1 g.2.2.2.1 (g.2.2.2.2.1 _ hw) hd (k H locs ls hP hD hS hl0)
theorem J.iload_n (g : jG γ x rm cc own ret) {k : Fin 4} {i : Nat} {x9 : Int32} (hd : decode cc pc = .ok (.iload_n k, 1)) (hi : (k : Nat) = i) (hl : lv[i]? = some (some (.int x9))) (kk : J γ l x ws lv (.int x9 :: st) cs sl (pc + 1)) : J γ l x ws lv st cs sl pc := fun H locs ls hP hD hS hl0 => lv_iload_n g.1 g.2.1 hd hi (hl0.get hl) (kk H locs ls hP hD hS hl0)
theorem J.iload (g : jG γ x rm cc own ret) {i : Nat} {x9 : Int32} (hd : decode cc pc = .ok (.iload i, 2)) (hl : lv[i]? = some (some (.int x9))) (kk : J γ l x ws lv (.int x9 :: st) cs sl (pc + 2)) : J γ l x ws lv st cs sl pc := fun H locs ls hP hD hS hl0 => lv_iload g.1 g.2.1 hd (hl0.get hl) (kk H locs ls hP hD hS hl0)
theorem J.lload_n (g : jG γ x rm cc own ret) {k : Fin 4} {i : Nat} {x9 : Int64} (hd : decode cc pc = .ok (.lload_n k, 1)) (hi : (k : Nat) = i) (hl : lv[i]? = some (some (.long x9))) (kk : J γ l x ws lv (.long x9 :: st) cs sl (pc + 1)) : J γ l x ws lv st cs sl pc := fun H locs ls hP hD hS hl0 => lv_lload_n g.1 g.2.1 hd hi (hl0.get hl) (kk H locs ls hP hD hS hl0)
theorem J.lload (g : jG γ x rm cc own ret) {i : Nat} {x9 : Int64} (hd : decode cc pc = .ok (.lload i, 2)) (hl : lv[i]? = some (some (.long x9))) (kk : J γ l x ws lv (.long x9 :: st) cs sl (pc + 2)) : J γ l x ws lv st cs sl pc := fun H locs ls hP hD hS hl0 => lv_lload g.1 g.2.1 hd (hl0.get hl) (kk H locs ls hP hD hS hl0)
theorem J.aload_n (g : jG γ x rm cc own ret) {k : Fin 4} {i : Nat} {x9 : Nat} (hd : decode cc pc = .ok (.aload_n k, 1)) (hi : (k : Nat) = i) (hl : lv[i]? = some (some (.ref x9))) (kk : J γ l x ws lv (.ref x9 :: st) cs sl (pc + 1)) : J γ l x ws lv st cs sl pc := fun H locs ls hP hD hS hl0 => lv_aload_n g.1 g.2.1 hd hi (hl0.get hl) (kk H locs ls hP hD hS hl0)
theorem J.aload (g : jG γ x rm cc own ret) {i : Nat} {x9 : Nat} (hd : decode cc pc = .ok (.aload i, 2)) (hl : lv[i]? = some (some (.ref x9))) (kk : J γ l x ws lv (.ref x9 :: st) cs sl (pc + 2)) : J γ l x ws lv st cs sl pc := fun H locs ls hP hD hS hl0 => lv_aload g.1 g.2.1 hd (hl0.get hl) (kk H locs ls hP hD hS hl0)
theorem J.aload_nN (g : jG γ x rm cc own ret) {k : Fin 4} {i : Nat} (hd : decode cc pc = .ok (.aload_n k, 1)) (hi : (k : Nat) = i) (hl : lv[i]? = some (some .null)) (kk : J γ l x ws lv (.null :: st) cs sl (pc + 1)) : J γ l x ws lv st cs sl pc := fun H locs ls hP hD hS hl0 => lv_aload_nN g.1 g.2.1 hd hi (hl0.get hl) (kk H locs ls hP hD hS hl0)
theorem J.aloadN (g : jG γ x rm cc own ret) {i : Nat} (hd : decode cc pc = .ok (.aload i, 2)) (hl : lv[i]? = some (some .null)) (kk : J γ l x ws lv (.null :: st) cs sl (pc + 2)) : J γ l x ws lv st cs sl pc := fun H locs ls hP hD hS hl0 => lv_aloadN g.1 g.2.1 hd (hl0.get hl) (kk H locs ls hP hD hS hl0)
theorem J.istore_n (g : jG γ x rm cc own ret) {k : Fin 4} {i : Nat} {x9 : Int32} (hd : decode cc pc = .ok (.istore_n k, 1)) (hi : (k : Nat) = i) (hj : jc lv = true) (hn : (lv[i]?).isSome = true) (kk : J γ l x ws (lv.set i (some (.int x9))) st cs sl (pc + 1)) : J γ l x ws lv (.int x9 :: st) cs sl pc := fun H locs ls hP hD hS hl0 => lv_istore_n g.1 g.2.1 hd hi hl0.2 (hl0.lt hn) rfl (fun ls' h' => kk H locs ls' hP hD hS (hl0.set hj h'))
theorem J.istore (g : jG γ x rm cc own ret) {i : Nat} {x9 : Int32} (hd : decode cc pc = .ok (.istore i, 2)) (hj : jc lv = true) (hn : (lv[i]?).isSome = true) (kk : J γ l x ws (lv.set i (some (.int x9))) st cs sl (pc + 2)) : J γ l x ws lv (.int x9 :: st) cs sl pc := fun H locs ls hP hD hS hl0 => lv_istore g.1 g.2.1 hd hl0.2 (hl0.lt hn) rfl (fun ls' h' => kk H locs ls' hP hD hS (hl0.set hj h'))
theorem J.astore_n (g : jG γ x rm cc own ret) {k : Fin 4} {i : Nat} {x9 : Nat} (hd : decode cc pc = .ok (.astore_n k, 1)) (hi : (k : Nat) = i) (hj : jc lv = true) (hn : (lv[i]?).isSome = true) (kk : J γ l x ws (lv.set i (some (.ref x9))) st cs sl (pc + 1)) : J γ l x ws lv (.ref x9 :: st) cs sl pc := fun H locs ls hP hD hS hl0 => lv_astore_n g.1 g.2.1 hd hi hl0.2 (hl0.lt hn) rfl (fun ls' h' => kk H locs ls' hP hD hS (hl0.set hj h'))
theorem J.astore (g : jG γ x rm cc own ret) {i : Nat} {x9 : Nat} (hd : decode cc pc = .ok (.astore i, 2)) (hj : jc lv = true) (hn : (lv[i]?).isSome = true) (kk : J γ l x ws (lv.set i (some (.ref x9))) st cs sl (pc + 2)) : J γ l x ws lv (.ref x9 :: st) cs sl pc := fun H locs ls hP hD hS hl0 => lv_astore g.1 g.2.1 hd hl0.2 (hl0.lt hn) rfl (fun ls' h' => kk H locs ls' hP hD hS (hl0.set hj h'))
theorem J.astore_nN (g : jG γ x rm cc own ret) {k : Fin 4} {i : Nat}  (hd : decode cc pc = .ok (.astore_n k, 1)) (hi : (k : Nat) = i) (hj : jc lv = true) (hn : (lv[i]?).isSome = true) (kk : J γ l x ws (lv.set i (some .null)) st cs sl (pc + 1)) : J γ l x ws lv (.null :: st) cs sl pc := fun H locs ls hP hD hS hl0 => lv_astore_nN g.1 g.2.1 hd hi hl0.2 (hl0.lt hn) rfl (fun ls' h' => kk H locs ls' hP hD hS (hl0.set hj h'))
theorem J.astoreN (g : jG γ x rm cc own ret) {i : Nat}  (hd : decode cc pc = .ok (.astore i, 2)) (hj : jc lv = true) (hn : (lv[i]?).isSome = true) (kk : J γ l x ws (lv.set i (some .null)) st cs sl (pc + 2)) : J γ l x ws lv (.null :: st) cs sl pc := fun H locs ls hP hD hS hl0 => lv_astoreN g.1 g.2.1 hd hl0.2 (hl0.lt hn) rfl (fun ls' h' => kk H locs ls' hP hD hS (hl0.set hj h'))
theorem J.iinc (g : jG γ x rm cc own ret) {i : Nat} {n : Int} {x9 v : Int32} (hd : decode cc pc = .ok (.iinc i n, 3)) (hj : jc lv = true) (hx : lv[i]? = some (some (.int x9))) (hv : x9 + Int32.ofInt n = v) (kk : J γ l x ws (lv.set i (some (.int v))) st cs sl (pc + 3)) : J γ l x ws lv st cs sl pc := by
  intro H locs ls hP hD hS hl0
  obtain ⟨j, hj2⟩ := List.getElem?_of_mem (lvl_in lv 0 i _ hx)
  rw [Nat.zero_add] at hj2
  exact lv_iinc g.1 g.2.1 hd hl0.2 hj2 hv (hl0.lt (by rw [hx]; rfl)) rfl (fun ls' h' => kk H locs ls' hP hD hS (hl0.set hj h'))
theorem J.iadd (g : jG γ x rm cc own ret) {x9 y : Int32} (hd : decode cc pc = .ok (.iadd, 1)) (k : J γ l x ws lv (.int (x9 + y) :: st) cs sl (pc + 1)) : J γ l x ws lv (.int y :: .int x9 :: st) cs sl pc := fun H locs ls hP hD hS hl0 => lv_iadd g.1 g.2.1 hd (k H locs ls hP hD hS hl0)
theorem J.iadd' (g : jG γ x rm cc own ret) {x9 y v : Int32} (hd : decode cc pc = .ok (.iadd, 1)) (hv : x9 + y = v) (k : J γ l x ws lv (.int v :: st) cs sl (pc + 1)) : J γ l x ws lv (.int y :: .int x9 :: st) cs sl pc := fun H locs ls hP hD hS hl0 => lv_iadd g.1 g.2.1 hd (hv ▸ k H locs ls hP hD hS hl0)
theorem J.isub (g : jG γ x rm cc own ret) {x9 y : Int32} (hd : decode cc pc = .ok (.isub, 1)) (k : J γ l x ws lv (.int (x9 - y) :: st) cs sl (pc + 1)) : J γ l x ws lv (.int y :: .int x9 :: st) cs sl pc := fun H locs ls hP hD hS hl0 => lv_isub g.1 g.2.1 hd (k H locs ls hP hD hS hl0)
theorem J.isub' (g : jG γ x rm cc own ret) {x9 y v : Int32} (hd : decode cc pc = .ok (.isub, 1)) (hv : x9 - y = v) (k : J γ l x ws lv (.int v :: st) cs sl (pc + 1)) : J γ l x ws lv (.int y :: .int x9 :: st) cs sl pc := fun H locs ls hP hD hS hl0 => lv_isub g.1 g.2.1 hd (hv ▸ k H locs ls hP hD hS hl0)
theorem J.imul (g : jG γ x rm cc own ret) {x9 y : Int32} (hd : decode cc pc = .ok (.imul, 1)) (k : J γ l x ws lv (.int (x9 * y) :: st) cs sl (pc + 1)) : J γ l x ws lv (.int y :: .int x9 :: st) cs sl pc := fun H locs ls hP hD hS hl0 => lv_imul g.1 g.2.1 hd (k H locs ls hP hD hS hl0)
theorem J.imul' (g : jG γ x rm cc own ret) {x9 y v : Int32} (hd : decode cc pc = .ok (.imul, 1)) (hv : x9 * y = v) (k : J γ l x ws lv (.int v :: st) cs sl (pc + 1)) : J γ l x ws lv (.int y :: .int x9 :: st) cs sl pc := fun H locs ls hP hD hS hl0 => lv_imul g.1 g.2.1 hd (hv ▸ k H locs ls hP hD hS hl0)
theorem J.iand (g : jG γ x rm cc own ret) {x9 y : Int32} (hd : decode cc pc = .ok (.iand, 1)) (k : J γ l x ws lv (.int (x9 &&& y) :: st) cs sl (pc + 1)) : J γ l x ws lv (.int y :: .int x9 :: st) cs sl pc := fun H locs ls hP hD hS hl0 => lv_iand g.1 g.2.1 hd (k H locs ls hP hD hS hl0)
theorem J.iand' (g : jG γ x rm cc own ret) {x9 y v : Int32} (hd : decode cc pc = .ok (.iand, 1)) (hv : x9 &&& y = v) (k : J γ l x ws lv (.int v :: st) cs sl (pc + 1)) : J γ l x ws lv (.int y :: .int x9 :: st) cs sl pc := fun H locs ls hP hD hS hl0 => lv_iand g.1 g.2.1 hd (hv ▸ k H locs ls hP hD hS hl0)
theorem J.ior (g : jG γ x rm cc own ret) {x9 y : Int32} (hd : decode cc pc = .ok (.ior, 1)) (k : J γ l x ws lv (.int (x9 ||| y) :: st) cs sl (pc + 1)) : J γ l x ws lv (.int y :: .int x9 :: st) cs sl pc := fun H locs ls hP hD hS hl0 => lv_ior g.1 g.2.1 hd (k H locs ls hP hD hS hl0)
theorem J.ior' (g : jG γ x rm cc own ret) {x9 y v : Int32} (hd : decode cc pc = .ok (.ior, 1)) (hv : x9 ||| y = v) (k : J γ l x ws lv (.int v :: st) cs sl (pc + 1)) : J γ l x ws lv (.int y :: .int x9 :: st) cs sl pc := fun H locs ls hP hD hS hl0 => lv_ior g.1 g.2.1 hd (hv ▸ k H locs ls hP hD hS hl0)
theorem J.ixor (g : jG γ x rm cc own ret) {x9 y : Int32} (hd : decode cc pc = .ok (.ixor, 1)) (k : J γ l x ws lv (.int (x9 ^^^ y) :: st) cs sl (pc + 1)) : J γ l x ws lv (.int y :: .int x9 :: st) cs sl pc := fun H locs ls hP hD hS hl0 => lv_ixor g.1 g.2.1 hd (k H locs ls hP hD hS hl0)
theorem J.ixor' (g : jG γ x rm cc own ret) {x9 y v : Int32} (hd : decode cc pc = .ok (.ixor, 1)) (hv : x9 ^^^ y = v) (k : J γ l x ws lv (.int v :: st) cs sl (pc + 1)) : J γ l x ws lv (.int y :: .int x9 :: st) cs sl pc := fun H locs ls hP hD hS hl0 => lv_ixor g.1 g.2.1 hd (hv ▸ k H locs ls hP hD hS hl0)
theorem J.ishl (g : jG γ x rm cc own ret) {x9 y : Int32} (hd : decode cc pc = .ok (.ishl, 1)) (k : J γ l x ws lv (.int (x9 <<< (y &&& 31)) :: st) cs sl (pc + 1)) : J γ l x ws lv (.int y :: .int x9 :: st) cs sl pc := fun H locs ls hP hD hS hl0 => lv_ishl g.1 g.2.1 hd (k H locs ls hP hD hS hl0)
theorem J.ishl' (g : jG γ x rm cc own ret) {x9 y v : Int32} (hd : decode cc pc = .ok (.ishl, 1)) (hv : x9 <<< (y &&& 31) = v) (k : J γ l x ws lv (.int v :: st) cs sl (pc + 1)) : J γ l x ws lv (.int y :: .int x9 :: st) cs sl pc := fun H locs ls hP hD hS hl0 => lv_ishl g.1 g.2.1 hd (hv ▸ k H locs ls hP hD hS hl0)
theorem J.ishr (g : jG γ x rm cc own ret) {x9 y : Int32} (hd : decode cc pc = .ok (.ishr, 1)) (k : J γ l x ws lv (.int (x9 >>> (y &&& 31)) :: st) cs sl (pc + 1)) : J γ l x ws lv (.int y :: .int x9 :: st) cs sl pc := fun H locs ls hP hD hS hl0 => lv_ishr g.1 g.2.1 hd (k H locs ls hP hD hS hl0)
theorem J.ishr' (g : jG γ x rm cc own ret) {x9 y v : Int32} (hd : decode cc pc = .ok (.ishr, 1)) (hv : x9 >>> (y &&& 31) = v) (k : J γ l x ws lv (.int v :: st) cs sl (pc + 1)) : J γ l x ws lv (.int y :: .int x9 :: st) cs sl pc := fun H locs ls hP hD hS hl0 => lv_ishr g.1 g.2.1 hd (hv ▸ k H locs ls hP hD hS hl0)
theorem J.ladd (g : jG γ x rm cc own ret) {x9 y : Int64} (hd : decode cc pc = .ok (.ladd, 1)) (k : J γ l x ws lv (.long (x9 + y) :: st) cs sl (pc + 1)) : J γ l x ws lv (.long y :: .long x9 :: st) cs sl pc := fun H locs ls hP hD hS hl0 => lv_ladd g.1 g.2.1 hd (k H locs ls hP hD hS hl0)
theorem J.lsub (g : jG γ x rm cc own ret) {x9 y : Int64} (hd : decode cc pc = .ok (.lsub, 1)) (k : J γ l x ws lv (.long (x9 - y) :: st) cs sl (pc + 1)) : J γ l x ws lv (.long y :: .long x9 :: st) cs sl pc := fun H locs ls hP hD hS hl0 => lv_lsub g.1 g.2.1 hd (k H locs ls hP hD hS hl0)
theorem J.lmul (g : jG γ x rm cc own ret) {x9 y : Int64} (hd : decode cc pc = .ok (.lmul, 1)) (k : J γ l x ws lv (.long (x9 * y) :: st) cs sl (pc + 1)) : J γ l x ws lv (.long y :: .long x9 :: st) cs sl pc := fun H locs ls hP hD hS hl0 => lv_lmul g.1 g.2.1 hd (k H locs ls hP hD hS hl0)
theorem J.idiv (g : jG γ x rm cc own ret) {x9 y v : Int32} (hd : decode cc pc = .ok (.idiv, 1)) (hy : ¬ y = 0) (hv : x9 / y = v) (k : J γ l x ws lv (.int v :: st) cs sl (pc + 1)) : J γ l x ws lv (.int y :: .int x9 :: st) cs sl pc := fun H locs ls hP hD hS hl0 => lv_idiv g.1 g.2.1 hd hy (hv ▸ k H locs ls hP hD hS hl0)
theorem J.irem (g : jG γ x rm cc own ret) {x9 y v : Int32} (hd : decode cc pc = .ok (.irem, 1)) (hy : ¬ y = 0) (hv : x9 - x9 / y * y = v) (k : J γ l x ws lv (.int v :: st) cs sl (pc + 1)) : J γ l x ws lv (.int y :: .int x9 :: st) cs sl pc := fun H locs ls hP hD hS hl0 => lv_irem g.1 g.2.1 hd hy (hv ▸ k H locs ls hP hD hS hl0)
theorem J.ineg (g : jG γ x rm cc own ret) {x9 : Int32} (hd : decode cc pc = .ok (.ineg, 1)) (k : J γ l x ws lv (.int (-x9) :: st) cs sl (pc + 1)) : J γ l x ws lv (.int x9 :: st) cs sl pc := fun H locs ls hP hD hS hl0 => lv_ineg g.1 g.2.1 hd (k H locs ls hP hD hS hl0)
theorem J.iushr (g : jG γ x rm cc own ret) {x9 y v : Int32} (hd : decode cc pc = .ok (.iushr, 1)) (hv : (x9.toUInt32 >>> (y.toUInt32 &&& Int32.toUInt32 31)).toInt32 = v) (k : J γ l x ws lv (.int v :: st) cs sl (pc + 1)) : J γ l x ws lv (.int y :: .int x9 :: st) cs sl pc := fun H locs ls hP hD hS hl0 => lv_iushr g.1 g.2.1 hd hv (k H locs ls hP hD hS hl0)
theorem J.i2b (g : jG γ x rm cc own ret) {x9 v : Int32} (hd : decode cc pc = .ok (.i2b, 1)) (hv : x9.toInt8.toInt32 = v) (k : J γ l x ws lv (.int v :: st) cs sl (pc + 1)) : J γ l x ws lv (.int x9 :: st) cs sl pc := fun H locs ls hP hD hS hl0 => lv_i2b g.1 g.2.1 hd hv (k H locs ls hP hD hS hl0)
theorem J.i2l (g : jG γ x rm cc own ret) {x9 : Int32} {v : Int64} (hd : decode cc pc = .ok (.i2l, 1)) (hv : x9.toInt64 = v) (k : J γ l x ws lv (.long v :: st) cs sl (pc + 1)) : J γ l x ws lv (.int x9 :: st) cs sl pc := fun H locs ls hP hD hS hl0 => lv_i2l g.1 g.2.1 hd hv (k H locs ls hP hD hS hl0)
theorem J.dup (g : jG γ x rm cc own ret) {v : Value} (hd : decode cc pc = .ok (.dup, 1)) (hv : v.category = 1) (k : J γ l x ws lv (v :: v :: st) cs sl (pc + 1)) : J γ l x ws lv (v :: st) cs sl pc := fun H locs ls hP hD hS hl0 => lv_dup g.1 g.2.1 hd hv (k H locs ls hP hD hS hl0)
theorem J.pop (g : jG γ x rm cc own ret) {v : Value} (hd : decode cc pc = .ok (.pop, 1)) (hv : v.category = 1) (k : J γ l x ws lv st cs sl (pc + 1)) : J γ l x ws lv (v :: st) cs sl pc := fun H locs ls hP hD hS hl0 => lv_pop g.1 g.2.1 hd hv (k H locs ls hP hD hS hl0)
theorem J.dup_x1 (g : jG γ x rm cc own ret) {v u : Value} (hd : decode cc pc = .ok (.dup_x1, 1)) (hv : v.category = 1) (hu : u.category = 1) (k : J γ l x ws lv (v :: u :: v :: st) cs sl (pc + 1)) : J γ l x ws lv (v :: u :: st) cs sl pc := fun H locs ls hP hD hS hl0 => lv_dup_x1 g.1 g.2.1 hd hv hu (k H locs ls hP hD hS hl0)
theorem J.dup2 (g : jG γ x rm cc own ret) {v u : Value} (hd : decode cc pc = .ok (.dup2, 1)) (hv : v.category = 1) (hu : u.category = 1) (k : J γ l x ws lv (v :: u :: v :: u :: st) cs sl (pc + 1)) : J γ l x ws lv (v :: u :: st) cs sl pc := fun H locs ls hP hD hS hl0 => lv_dup2_11 g.1 g.2.1 hd hv hu (k H locs ls hP hD hS hl0)
theorem J.if_eq (g : jG γ x rm cc own ret) {x9 : Int32} {off : Int} {tgt : Nat} (hd : decode cc pc = .ok (.ifCond .eq off, 3)) (ht : (pc : Int) + off = (tgt : Int)) (kt : x9 = 0 → J γ l x ws lv st cs sl tgt) (kf : ¬ (x9 = 0) → J γ l x ws lv st cs sl (pc + 3)) : J γ l x ws lv (.int x9 :: st) cs sl pc := fun H locs ls hP hD hS hl0 => lv_if_eq g.1 g.2.1 hd ht (fun q => kt q H locs ls hP hD hS hl0) (fun q => kf q H locs ls hP hD hS hl0)
theorem J.icmp_eq (g : jG γ x rm cc own ret) {x9 y : Int32} {off : Int} {tgt : Nat} (hd : decode cc pc = .ok (.if_icmp .eq off, 3)) (ht : (pc : Int) + off = (tgt : Int)) (kt : x9 = y → J γ l x ws lv st cs sl tgt) (kf : ¬ (x9 = y) → J γ l x ws lv st cs sl (pc + 3)) : J γ l x ws lv (.int y :: .int x9 :: st) cs sl pc := fun H locs ls hP hD hS hl0 => lv_icmp_eq g.1 g.2.1 hd ht (fun q => kt q H locs ls hP hD hS hl0) (fun q => kf q H locs ls hP hD hS hl0)
theorem J.if_ne (g : jG γ x rm cc own ret) {x9 : Int32} {off : Int} {tgt : Nat} (hd : decode cc pc = .ok (.ifCond .ne off, 3)) (ht : (pc : Int) + off = (tgt : Int)) (kt : ¬ x9 = 0 → J γ l x ws lv st cs sl tgt) (kf : x9 = 0 → J γ l x ws lv st cs sl (pc + 3)) : J γ l x ws lv (.int x9 :: st) cs sl pc := fun H locs ls hP hD hS hl0 => lv_if_ne g.1 g.2.1 hd ht (fun q => kt q H locs ls hP hD hS hl0) (fun q => kf q H locs ls hP hD hS hl0)
theorem J.icmp_ne (g : jG γ x rm cc own ret) {x9 y : Int32} {off : Int} {tgt : Nat} (hd : decode cc pc = .ok (.if_icmp .ne off, 3)) (ht : (pc : Int) + off = (tgt : Int)) (kt : ¬ x9 = y → J γ l x ws lv st cs sl tgt) (kf : x9 = y → J γ l x ws lv st cs sl (pc + 3)) : J γ l x ws lv (.int y :: .int x9 :: st) cs sl pc := fun H locs ls hP hD hS hl0 => lv_icmp_ne g.1 g.2.1 hd ht (fun q => kt q H locs ls hP hD hS hl0) (fun q => kf q H locs ls hP hD hS hl0)
theorem J.if_lt (g : jG γ x rm cc own ret) {x9 : Int32} {off : Int} {tgt : Nat} (hd : decode cc pc = .ok (.ifCond .lt off, 3)) (ht : (pc : Int) + off = (tgt : Int)) (kt : x9 < 0 → J γ l x ws lv st cs sl tgt) (kf : ¬ (x9 < 0) → J γ l x ws lv st cs sl (pc + 3)) : J γ l x ws lv (.int x9 :: st) cs sl pc := fun H locs ls hP hD hS hl0 => lv_if_lt g.1 g.2.1 hd ht (fun q => kt q H locs ls hP hD hS hl0) (fun q => kf q H locs ls hP hD hS hl0)
theorem J.icmp_lt (g : jG γ x rm cc own ret) {x9 y : Int32} {off : Int} {tgt : Nat} (hd : decode cc pc = .ok (.if_icmp .lt off, 3)) (ht : (pc : Int) + off = (tgt : Int)) (kt : x9 < y → J γ l x ws lv st cs sl tgt) (kf : ¬ (x9 < y) → J γ l x ws lv st cs sl (pc + 3)) : J γ l x ws lv (.int y :: .int x9 :: st) cs sl pc := fun H locs ls hP hD hS hl0 => lv_icmp_lt g.1 g.2.1 hd ht (fun q => kt q H locs ls hP hD hS hl0) (fun q => kf q H locs ls hP hD hS hl0)
theorem J.if_ge (g : jG γ x rm cc own ret) {x9 : Int32} {off : Int} {tgt : Nat} (hd : decode cc pc = .ok (.ifCond .ge off, 3)) (ht : (pc : Int) + off = (tgt : Int)) (kt : 0 ≤ x9 → J γ l x ws lv st cs sl tgt) (kf : ¬ (0 ≤ x9) → J γ l x ws lv st cs sl (pc + 3)) : J γ l x ws lv (.int x9 :: st) cs sl pc := fun H locs ls hP hD hS hl0 => lv_if_ge g.1 g.2.1 hd ht (fun q => kt q H locs ls hP hD hS hl0) (fun q => kf q H locs ls hP hD hS hl0)
theorem J.icmp_ge (g : jG γ x rm cc own ret) {x9 y : Int32} {off : Int} {tgt : Nat} (hd : decode cc pc = .ok (.if_icmp .ge off, 3)) (ht : (pc : Int) + off = (tgt : Int)) (kt : y ≤ x9 → J γ l x ws lv st cs sl tgt) (kf : ¬ (y ≤ x9) → J γ l x ws lv st cs sl (pc + 3)) : J γ l x ws lv (.int y :: .int x9 :: st) cs sl pc := fun H locs ls hP hD hS hl0 => lv_icmp_ge g.1 g.2.1 hd ht (fun q => kt q H locs ls hP hD hS hl0) (fun q => kf q H locs ls hP hD hS hl0)
theorem J.if_gt (g : jG γ x rm cc own ret) {x9 : Int32} {off : Int} {tgt : Nat} (hd : decode cc pc = .ok (.ifCond .gt off, 3)) (ht : (pc : Int) + off = (tgt : Int)) (kt : 0 < x9 → J γ l x ws lv st cs sl tgt) (kf : ¬ (0 < x9) → J γ l x ws lv st cs sl (pc + 3)) : J γ l x ws lv (.int x9 :: st) cs sl pc := fun H locs ls hP hD hS hl0 => lv_if_gt g.1 g.2.1 hd ht (fun q => kt q H locs ls hP hD hS hl0) (fun q => kf q H locs ls hP hD hS hl0)
theorem J.icmp_gt (g : jG γ x rm cc own ret) {x9 y : Int32} {off : Int} {tgt : Nat} (hd : decode cc pc = .ok (.if_icmp .gt off, 3)) (ht : (pc : Int) + off = (tgt : Int)) (kt : y < x9 → J γ l x ws lv st cs sl tgt) (kf : ¬ (y < x9) → J γ l x ws lv st cs sl (pc + 3)) : J γ l x ws lv (.int y :: .int x9 :: st) cs sl pc := fun H locs ls hP hD hS hl0 => lv_icmp_gt g.1 g.2.1 hd ht (fun q => kt q H locs ls hP hD hS hl0) (fun q => kf q H locs ls hP hD hS hl0)
theorem J.if_le (g : jG γ x rm cc own ret) {x9 : Int32} {off : Int} {tgt : Nat} (hd : decode cc pc = .ok (.ifCond .le off, 3)) (ht : (pc : Int) + off = (tgt : Int)) (kt : x9 ≤ 0 → J γ l x ws lv st cs sl tgt) (kf : ¬ (x9 ≤ 0) → J γ l x ws lv st cs sl (pc + 3)) : J γ l x ws lv (.int x9 :: st) cs sl pc := fun H locs ls hP hD hS hl0 => lv_if_le g.1 g.2.1 hd ht (fun q => kt q H locs ls hP hD hS hl0) (fun q => kf q H locs ls hP hD hS hl0)
theorem J.icmp_le (g : jG γ x rm cc own ret) {x9 y : Int32} {off : Int} {tgt : Nat} (hd : decode cc pc = .ok (.if_icmp .le off, 3)) (ht : (pc : Int) + off = (tgt : Int)) (kt : x9 ≤ y → J γ l x ws lv st cs sl tgt) (kf : ¬ (x9 ≤ y) → J γ l x ws lv st cs sl (pc + 3)) : J γ l x ws lv (.int y :: .int x9 :: st) cs sl pc := fun H locs ls hP hD hS hl0 => lv_icmp_le g.1 g.2.1 hd ht (fun q => kt q H locs ls hP hD hS hl0) (fun q => kf q H locs ls hP hD hS hl0)
theorem J.goto (g : jG γ x rm cc own ret) {off : Int} {tgt : Nat} (hd : decode cc pc = .ok (.goto off, 3)) (ht : (pc : Int) + off = (tgt : Int)) (k : J γ l x ws lv st cs sl tgt) : J γ l x ws lv st cs sl pc := fun H locs ls hP hD hS hl0 => lv_goto g.1 g.2.1 hd ht (k H locs ls hP hD hS hl0)
theorem J.ifnonnull (g : jG γ x rm cc own ret) {x9 : Nat} {off : Int} {tgt : Nat} (hd : decode cc pc = .ok (.ifnonnull off, 3)) (ht : (pc : Int) + off = (tgt : Int)) (k : J γ l x ws lv st cs sl tgt) : J γ l x ws lv (.ref x9 :: st) cs sl pc := fun H locs ls hP hD hS hl0 => lv_ifnonnull g.1 g.2.1 hd ht (k H locs ls hP hD hS hl0)
theorem J.ifnonnullN (g : jG γ x rm cc own ret) {off : Int} (hd : decode cc pc = .ok (.ifnonnull off, 3)) (k : J γ l x ws lv st cs sl (pc + 3)) : J γ l x ws lv (.null :: st) cs sl pc := fun H locs ls hP hD hS hl0 => lv_ifnonnullN g.1 g.2.1 hd (k H locs ls hP hD hS hl0)
theorem J.ifnull (g : jG γ x rm cc own ret) {x9 : Nat} {off : Int} (hd : decode cc pc = .ok (.ifnull off, 3)) (k : J γ l x ws lv st cs sl (pc + 3)) : J γ l x ws lv (.ref x9 :: st) cs sl pc := fun H locs ls hP hD hS hl0 => lv_ifnull g.1 g.2.1 hd (k H locs ls hP hD hS hl0)
theorem J.ifnullN (g : jG γ x rm cc own ret) {off : Int} {tgt : Nat} (hd : decode cc pc = .ok (.ifnull off, 3)) (ht : (pc : Int) + off = (tgt : Int)) (k : J γ l x ws lv st cs sl tgt) : J γ l x ws lv (.null :: st) cs sl pc := fun H locs ls hP hD hS hl0 => lv_ifnullN g.1 g.2.1 hd ht (k H locs ls hP hD hS hl0)
theorem J.get (g : jG γ x rm cc own ret) {ci : Nat} {C : String} {T : u_T} {N : Nat} {ty : Nat → FieldType} {a : Nat} {fs : List Value} {v : Value} (hC : jC ci C T N ty) (k : Nat) (hk : k < N) {ix : Nat} (hw : Cond.fieldLink own ix (T k).1 (T k).2.1 (T k).2.2.1 ∈ jTT) (q0 : Nat) (he : ws[q0]? = some (a, .inr (ci, fs))) (hv : fs[k]? = some v) (hd : decode cc pc = .ok (.getfield ix, 3)) (kk : J γ l x ws lv (v :: st) cs sl (pc + 3)) : J γ l x ws lv (.ref a :: st) cs sl pc := fun H locs ls hP hD hS hl0 => va_get g.1 g.2.1 g.2.2.2.2.1 hC.2.1 g.2.2.2.1 g.2.2.2.2.2.1 hP q0 he hC.1 k hk (g.2.2.2.2.1 _ hw) (fun _ h => h) hv hd (kk H locs ls hP hD hS hl0)
theorem J.put (g : jG γ x rm cc own ret) {ci : Nat} {C : String} {T : u_T} {N : Nat} {ty : Nat → FieldType} {a : Nat} {fs : List Value} {v : Value} (hC : jC ci C T N ty) (k : Nat) (hk : k < N) {ix : Nat} (hw : Cond.fieldLink own ix (T k).1 (T k).2.1 (T k).2.2.1 ∈ jTT) (q0 : Nat) (he : ws[q0]? = some (a, .inr (ci, fs))) (hfin : (T k).2.2.2 = false) (hl : k < fs.length) (hn : narrow (ty k) v = v) (hf : fits (ty k) v = true) (hd : decode cc pc = .ok (.putfield ix, 3)) (kk : J γ l x (ws.set q0 (a, .inr (ci, fs.set k v))) lv st cs sl (pc + 3)) : J γ l x ws lv (v :: .ref a :: st) cs sl pc := fun H locs ls hP hD hS hl0 => va_put g.1 g.2.1 g.2.2.2.2.1 hC.2.1 ty hC.2.2.1 hC.2.2.2 g.2.2.2.1 g.2.2.2.2.2.1 hP hD hS q0 he hC.1 k hk (g.2.2.2.2.1 _ hw) (fun _ h => h) hfin (hC.2.2.1 k hk) hn hf hl hd (fun H1 locs1 hP1 hD1 hS1 => kk H1 locs1 ls hP1 hD1 hS1 hl0)
theorem J.putF (g : jG γ x rm cc own ret) {ci : Nat} {C : String} {T : u_T} {N : Nat} {ty : Nat → FieldType} {a : Nat} {fs : List Value} {v : Value} (hC : jC ci C T N ty) (k : Nat) (hk : k < N) {ix : Nat} (hw : Cond.fieldLink own ix (T k).1 (T k).2.1 (T k).2.2.1 ∈ jTT) (q0 : Nat) (he : ws[q0]? = some (a, .inr (ci, fs))) (hfin : (T k).2.2.2 = true) (hin : (jmt x).name = "<init>") (hown : (T k).1 = own) (hl : k < fs.length) (hn : narrow (ty k) v = v) (hf : fits (ty k) v = true) (hd : decode cc pc = .ok (.putfield ix, 3)) (kk : J γ l x (ws.set q0 (a, .inr (ci, fs.set k v))) lv st cs sl (pc + 3)) : J γ l x ws lv (v :: .ref a :: st) cs sl pc := fun H locs ls hP hD hS hl0 => va_putF g.1 g.2.1 g.2.2.2.2.1 hC.2.1 ty hC.2.2.1 hC.2.2.2 g.2.2.2.1 g.2.2.2.2.2.1 hP hD hS q0 he hC.1 k hk (g.2.2.2.2.1 _ hw) (fun _ h => h) hfin hin hown (hC.2.2.1 k hk) hn hf hl hd (fun H1 locs1 hP1 hD1 hS1 => kk H1 locs1 ls hP1 hD1 hS1 hl0)
theorem J.iald (g : jG γ x rm cc own ret) (q0 : Nat) {a n : Nat} {f : Nat → Int32} {i : Int32} {v : Int32} (ha : ws[q0]? = some (a, .inl (γ.2 0, n, .inl f))) (hi : vp_in i n) (hv : f i.toNatClampNeg = v) (hd : decode cc pc = .ok (.iaload, 1)) (kk : J γ l x ws lv (.int v :: st) cs sl (pc + 1)) : J γ l x ws lv (.int i :: .ref a :: st) cs sl pc := fun H locs ls hP hD hS hl0 => va_iald g.1 g.2.1 g.2.2.2.2.2.1 hP q0 0 ha rfl hi hd (hv ▸ kk H locs ls hP hD hS hl0)
theorem J.iast (g : jG γ x rm cc own ret) (q0 : Nat) {a n : Nat} {f : Nat → Int32} {i x9 : Int32} (ha : ws[q0]? = some (a, .inl (γ.2 0, n, .inl f))) (hi : vp_in i n) (hd : decode cc pc = .ok (.iastore, 1)) (kk : J γ l x (ws.set q0 (a, .inl (γ.2 0, n, .inl (upd f i.toNatClampNeg x9)))) lv st cs sl (pc + 1)) : J γ l x ws lv (.int x9 :: .int i :: .ref a :: st) cs sl pc := fun H locs ls hP hD hS hl0 => va_iast g.1 g.2.1 g.2.2.2.2.2.1 hP hD hS q0 0 ha rfl hi hd (fun H1 locs1 hP1 hD1 hS1 => kk H1 locs1 ls hP1 hD1 hS1 hl0)
theorem J.bald (g : jG γ x rm cc own ret) (q0 : Nat) {a n : Nat} {f : Nat → Int32} {i : Int32} {v : Int32} (ha : ws[q0]? = some (a, .inl (γ.2 1, n, .inl f))) (hi : vp_in i n) (hv : f i.toNatClampNeg = v) (hd : decode cc pc = .ok (.baload, 1)) (kk : J γ l x ws lv (.int v :: st) cs sl (pc + 1)) : J γ l x ws lv (.int i :: .ref a :: st) cs sl pc := fun H locs ls hP hD hS hl0 => va_bald g.1 g.2.1 g.2.2.2.2.2.1 hP q0 1 ha rfl hi hd (hv ▸ kk H locs ls hP hD hS hl0)
theorem J.bast (g : jG γ x rm cc own ret) (q0 : Nat) {a n : Nat} {f : Nat → Int32} {i x9 : Int32} (ha : ws[q0]? = some (a, .inl (γ.2 1, n, .inl f))) (hi : vp_in i n) (hd : decode cc pc = .ok (.bastore, 1)) (kk : J γ l x (ws.set q0 (a, .inl (γ.2 1, n, .inl (upd f i.toNatClampNeg (vp_nar .byte x9))))) lv st cs sl (pc + 1)) : J γ l x ws lv (.int x9 :: .int i :: .ref a :: st) cs sl pc := fun H locs ls hP hD hS hl0 => va_bast g.1 g.2.1 g.2.2.2.2.2.1 hP hD hS q0 1 ha rfl hi hd (fun H1 locs1 hP1 hD1 hS1 => kk H1 locs1 ls hP1 hD1 hS1 hl0)
theorem J.zald (g : jG γ x rm cc own ret) (q0 : Nat) {a n : Nat} {f : Nat → Int32} {i : Int32} {v : Int32} (ha : ws[q0]? = some (a, .inl (γ.2 2, n, .inl f))) (hi : vp_in i n) (hv : f i.toNatClampNeg = v) (hd : decode cc pc = .ok (.baload, 1)) (kk : J γ l x ws lv (.int v :: st) cs sl (pc + 1)) : J γ l x ws lv (.int i :: .ref a :: st) cs sl pc := fun H locs ls hP hD hS hl0 => va_zald g.1 g.2.1 g.2.2.2.2.2.1 hP q0 2 ha rfl hi hd (hv ▸ kk H locs ls hP hD hS hl0)
theorem J.alen (g : jG γ x rm cc own ret) (q0 t0 : Nat) {a : Nat} {cA : ClassId} {x9 : vp_A} {ty : FieldType} {v : Int32} (ha : ws[q0]? = some (a, .inl (cA, x9))) (ht : (jT γ)[t0]? = some (cA, ty)) (hv : Int32.ofNat x9.1 = v) (hd : decode cc pc = .ok (.arraylength, 1)) (kk : J γ l x ws lv (.int v :: st) cs sl (pc + 1)) : J γ l x ws lv (.ref a :: st) cs sl pc := fun H locs ls hP hD hS hl0 => va_alen g.1 g.2.1 g.2.2.2.2.2.1 hP q0 t0 ha ht hv hd (kk H locs ls hP hD hS hl0)
theorem J.qald (g : jG γ x rm cc own ret) (q0 t0 : Nat) {a n : Nat} {cA : ClassId} {ty : FieldType} {f : Nat → Option Nat} {i : Int32} {v : Value} (ha : ws[q0]? = some (a, .inl (cA, n, .inr (.inr (.inr (.inr f)))))) (ht : (jT γ)[t0]? = some (cA, ty)) (hty : ty.isReference = true) (hi : vp_in i n) (hv : va_rf (f i.toNatClampNeg) = v) (hd : decode cc pc = .ok (.aaload, 1)) (kk : J γ l x ws lv (v :: st) cs sl (pc + 1)) : J γ l x ws lv (.int i :: .ref a :: st) cs sl pc := by
  intro H locs ls hP hD hS hl0
  have hlt : i.toNatClampNeg < n := Nat.not_le.mp fun q => hi (Or.inr q)
  exact W.aald (v := v) (ty := ty) g.1 g.2.1 (hP q0 _ ha) ((g.2.2.2.2.2.1.2 t0 _ ht).1 n (fun j => va_rf (f j))) hty (fun q => by cases q) (by show ¬ (i < 0 ∨ (arrV _ _ _).slots.size ≤ _); rw [arrV_size]; exact hi) (by show (arrV _ _ _).slots[_]? = _; rw [arrV_read _ _ hlt, hv]) rfl rfl hd (kk H locs ls hP hD hS hl0)
theorem J.mmin (g : jG γ x rm cc own ret) {ix : Nat} {x9 y v : Int32} (h1 : Cond.methodLink own ix Lib.Math.min.name ∈ jTT) (h2 : Cond.static Lib.Math.min.name ∈ jTT) (h3 : Cond.initialized "java/lang/Math" ∈ jTT) (h4 : Cond.code Lib.Math.min.name Lib.Math.min.code 2 (some .int) ∈ jTT) (hR : 1 ≤ rm.frames ∧ (st.map fun v => v.category).sum + 13 ≤ rm.locals ∧ cs ≤ rm.cells ∧ sl ≤ rm.slots) (hv : (if y < x9 then y else x9) = v) (hd : decode cc pc = .ok (.invokestatic ix, 3)) (kk : J γ l x ws lv (.int v :: st) cs sl (pc + 3)) : J γ l x ws lv (.int y :: .int x9 :: st) cs sl pc := fun H locs ls hP hD hS hl0 => va_mmin g.1 g.2.1 (by rw [g.2.2.1]; exact hl0.2.1.symm) g.2.2.2.1 (g.2.2.2.2.1 _ h1) (g.2.2.2.2.1 _ h2) (g.2.2.2.2.1 _ h3) (g.2.2.2.2.1 _ h4) (by rw [g.2.2.2.2.2.2.2.2.2.1]; exact hR.1) (by rw [g.2.2.2.2.2.2.2.2.2.1]; exact hR.2.1) (by rw [g.2.2.2.2.2.2.2.2.2.1]; exact hR.2.2.1) (by rw [g.2.2.2.2.2.2.2.2.2.1]; exact hR.2.2.2) hd (hv ▸ kk H locs ls hP hD hS hl0)
theorem J.mmax (g : jG γ x rm cc own ret) {ix : Nat} {x9 y v : Int32} (h1 : Cond.methodLink own ix Lib.Math.max.name ∈ jTT) (h2 : Cond.static Lib.Math.max.name ∈ jTT) (h3 : Cond.initialized "java/lang/Math" ∈ jTT) (h4 : Cond.code Lib.Math.max.name Lib.Math.max.code 2 (some .int) ∈ jTT) (hR : 1 ≤ rm.frames ∧ (st.map fun v => v.category).sum + 13 ≤ rm.locals ∧ cs ≤ rm.cells ∧ sl ≤ rm.slots) (hv : (if x9 < y then y else x9) = v) (hd : decode cc pc = .ok (.invokestatic ix, 3)) (kk : J γ l x ws lv (.int v :: st) cs sl (pc + 3)) : J γ l x ws lv (.int y :: .int x9 :: st) cs sl pc := fun H locs ls hP hD hS hl0 => va_mmax g.1 g.2.1 (by rw [g.2.2.1]; exact hl0.2.1.symm) g.2.2.2.1 (g.2.2.2.2.1 _ h1) (g.2.2.2.2.1 _ h2) (g.2.2.2.2.1 _ h3) (g.2.2.2.2.1 _ h4) (by rw [g.2.2.2.2.2.2.2.2.2.1]; exact hR.1) (by rw [g.2.2.2.2.2.2.2.2.2.1]; exact hR.2.1) (by rw [g.2.2.2.2.2.2.2.2.2.1]; exact hR.2.2.1) (by rw [g.2.2.2.2.2.2.2.2.2.1]; exact hR.2.2.2) hd (hv ▸ kk H locs ls hP hD hS hl0)
end
/-- what came back from a call, put where it was; what is new, behind -/
def jput : va_W → List Nat → va_W → va_W
  | ws, [], es => ws ++ es
  | ws, _ :: _, [] => ws
  | ws, i :: is, e :: es => jput (ws.set i e) is es
theorem jput_get : ∀ (is : List Nat) (ws es : va_W) (k : Nat) (q : Nat × va_E), is.length ≤ es.length → (∀ i ∈ is, i < ws.length) → (jput ws is es)[k]? = some q →
    (k < ws.length ∧ k ∉ is ∧ ws[k]? = some q) ∨ (∃ j : Nat, is[j]? = some k ∧ es[j]? = some q) ∨ ∃ j : Nat, k = ws.length + j ∧ es[is.length + j]? = some q
  | [], ws, es, k, q, _, _, h => by
    by_cases hk : k < ws.length
    · refine Or.inl ⟨hk, by simp, ?_⟩
      rw [jput, List.getElem?_append_left hk] at h
      exact h
    · refine Or.inr (Or.inr ⟨k - ws.length, by omega, ?_⟩)
      rw [jput, List.getElem?_append_right (by omega)] at h
      simpa using h
  | i :: is, ws, [], k, q, hl, _, h => by simp at hl
  | i :: is, ws, e :: es, k, q, hl, hi, h => by
    rw [jput] at h
    rcases jput_get is (ws.set i e) es k q (by simpa using hl) (fun x hx => by rw [List.length_set]; exact hi x (List.mem_cons_of_mem _ hx)) h with ⟨h1, h2, h3⟩ | ⟨j, h1, h2⟩ | ⟨j, h1, h2⟩
    · rw [List.length_set] at h1
      by_cases hk : i = k
      · subst hk
        refine Or.inr (Or.inl ⟨0, rfl, ?_⟩)
        rw [List.getElem?_set] at h3
        simp [h1] at h3
        simp [h3]
      · rw [List.getElem?_set_ne hk] at h3
        exact Or.inl ⟨h1, fun hm => by
          rcases List.mem_cons.mp hm with q | q
          · exact hk q.symm
          · exact h2 q, h3⟩
    · exact Or.inr (Or.inl ⟨j + 1, by simpa using h1, by simpa using h2⟩)
    · rw [List.length_set] at h1
      exact Or.inr (Or.inr ⟨j, h1, by rw [List.length_cons, show is.length + 1 + j = (is.length + j) + 1 by omega]; simpa using h2⟩)
theorem jput_join {A0 : Nat → Prop} {D : va_G} {cl : List vw_C} {ws wc w1 : va_W} {H H1 : Heap} (hP : va_P D cl ws H) (hD : va_D A0 ws) (is : List Nat) (hC : is.map (fun i => ws[i]?) = wc.map some) (ha : (w1.take wc.length).map Prod.fst = wc.map Prod.fst)
    (hk : ∀ q : Nat, q < H.size → ¬ va_A wc H.size q → H1[q]? = H[q]?) (hF : ∀ q, va_A wc H.size q → A0 q) (hP1 : va_P D cl w1 H1) (hD1 : va_D (va_A wc H.size) w1) : va_P D cl (jput ws is w1) H1 ∧ va_D A0 (jput ws is w1) := by
  have hlen : is.length = wc.length := by simpa using congrArg List.length hC
  have hw1 : wc.length ≤ w1.length := by
    have := congrArg List.length ha
    simp at this
    omega
  have hat : ∀ (j k : Nat), is[j]? = some k → ∃ p, ws[k]? = some p ∧ wc[j]? = some p := by
    intro j k h
    have h1 : (is.map (fun i => ws[i]?))[j]? = (wc.map some)[j]? := by rw [hC]
    rw [List.getElem?_map, List.getElem?_map, h] at h1
    cases hz : wc[j]? with
    | none => rw [hz] at h1; simp at h1
    | some p => rw [hz] at h1; exact ⟨p, by simpa using h1, rfl⟩
  have hin : ∀ i ∈ is, i < ws.length := by
    intro i hi
    obtain ⟨j, hj⟩ := List.getElem?_of_mem hi
    obtain ⟨p, hp, -⟩ := hat j i hj
    exact (List.getElem?_eq_some_iff.mp hp).1
  have hadr : ∀ (j : Nat) (p q : Nat × va_E), wc[j]? = some p → w1[j]? = some q → q.1 = p.1 := by
    intro j p q h1 h2
    have hj : j < wc.length := (List.getElem?_eq_some_iff.mp h1).1
    have h3 : ((w1.take wc.length).map Prod.fst)[j]? = (wc.map Prod.fst)[j]? := by rw [ha]
    rw [List.getElem?_map, List.getElem?_map, List.getElem?_take, if_pos hj, h1, h2] at h3
    simpa using h3
  have old : ∀ (k : Nat) (q : Nat × va_E), (jput ws is w1)[k]? = some q → (k < ws.length ∧ ∃ p, ws[k]? = some p ∧ p.1 = q.1) ∨ ∃ j : Nat, k = ws.length + j ∧ w1[is.length + j]? = some q := by
    intro k q h
    rcases jput_get is ws w1 k q (by omega) hin h with ⟨h1, -, h3⟩ | ⟨j, h1, h2⟩ | h
    · exact Or.inl ⟨h1, q, h3, rfl⟩
    · obtain ⟨p, hp, hc⟩ := hat j k h1
      exact Or.inl ⟨(List.getElem?_eq_some_iff.mp hp).1, p, hp, (hadr j p q hc h2).symm⟩
    · exact Or.inr h
  have mix : ∀ (i j : Nat) (p q : Nat × va_E), ws[i]? = some p → w1[is.length + j]? = some q → p.1 = q.1 → False := by
    intro i j p q h1 h2 h3
    have hlt := (hP i p h1).lt
    rcases hD1.2 _ _ h2 with ⟨k, e, hk2⟩ | h
    · have hkl : k < wc.length := (List.getElem?_eq_some_iff.mp hk2).1
      have h5 : w1[k]? = some (w1[k]'(by omega)) := List.getElem?_eq_getElem (by omega)
      have h6 := hadr k _ _ hk2 h5
      have := hD1.1 k (is.length + j) _ _ h5 h2 h6
      omega
    · omega
  refine ⟨fun k q h => ?_, fun i j p q h1 h2 h3 => ?_, fun k q h => ?_⟩
  · rcases jput_get is ws w1 k q (by omega) hin h with ⟨h1, h2, h3⟩ | ⟨j, h1, h2⟩ | ⟨j, h1, h2⟩
    · have hlt := (hP k q h3).lt
      refine (hP k q h3).kept (hk q.1 hlt ?_)
      rintro (⟨j, e, hj⟩ | hge)
      · have hjl : j < is.length := by rw [hlen]; exact (List.getElem?_eq_some_iff.mp hj).1
        obtain ⟨p, hp, hpc⟩ := hat j (is[j]'hjl) (List.getElem?_eq_getElem hjl)
        rw [hj] at hpc
        cases hpc
        have := hD.1 _ _ _ _ h3 hp rfl
        exact h2 (this ▸ List.getElem_mem hjl)
      · omega
    · exact hP1 j q h2
    · exact hP1 _ q h2
  · rcases old i p h1 with ⟨a1, p0, a2, a3⟩ | ⟨a, a1, a2⟩ <;> rcases old j q h2 with ⟨b1, q0, b2, b3⟩ | ⟨b, b1, b2⟩
    · exact hD.1 i j p0 q0 a2 b2 (by rw [a3, b3]; exact h3)
    · exact absurd (a3.trans h3) (fun z => mix i b p0 q a2 b2 z)
    · exact absurd (b3.trans h3.symm) (fun z => mix j a q0 p b2 a2 z)
    · have := hD1.1 _ _ _ _ a2 b2 h3
      omega
  · rcases old k q h with ⟨a1, p0, a2, a3⟩ | ⟨a, a1, a2⟩
    · rw [← a3]; exact hD.2 k p0 a2
    · exact hF _ (hD1.2 _ _ a2)
/-- a contract: the world ws0 at the start; at the end an answer and a world, as post says -/
def jPre (γ : jγ) (ws0 : va_W) (sz : Nat) : State → Prop := fun U => U.heap.size = sz ∧ va_P γ.1 vwCl ws0 U.heap ∧ va_K γ.1 vwCl (jT γ) U ∧ va_D (fun _ => True) ws0 ∧ jXX γ (va_A ws0 sz) U U.heap
def jQc {S : Type} (γ : jγ) (ws0 : va_W) (sz : Nat) (rt : S → Option Value) (ws1 : S → va_W) (post : S → Prop) : Array Value → State → Outcome → State → Prop := fun _ s0 oc t =>
  (∃ u : S, oc = .returned (rt u) ∧ post u ∧ va_P γ.1 vwCl (ws1 u) t.heap ∧ va_K γ.1 vwCl (jT γ) t ∧ va_D (va_A ws0 sz) (ws1 u)) ∧ va_F (va_A ws0 sz) s0 t
def jM {S : Type} (l : Launch) (γ : jγ) (y : MethodName) (b : ByteArray) (n : Nat) (r : Option FieldType) (rm : Room) (As : List Value) (ws0 : va_W) (rt : S → Option Value) (ws1 : S → va_W) (post : S → Prop) : Prop :=
  ∀ sz : Nat, Met l y (jw y b n r) rm (va_Pc As (jPre γ ws0 sz)) (jQc γ ws0 sz rt ws1 post) rm.cells rm.slots (va_A ws0 sz)
/-- what the end of a method asks -/
def jE0 {S : Type} (γ : jγ) (x : jE) (ws0 : va_W) (rt : S → Option Value) (ws1 : S → va_W) (post : S → Prop) (mc ms : Nat) : Prop :=
  jA x = va_A ws0 (jS x).heap.size ∧ jQ x = MQ (jb x) (jQc γ ws0 (jS x).heap.size rt ws1 post) (ja x) (jS x) mc ms (va_A ws0 (jS x).heap.size)
theorem jM.of {S : Type} {l : Launch} {γ : jγ} {y : MethodName} {b : ByteArray} {n : Nat} {r : Option FieldType} {rm : Room} {As : List Value} {ws0 : va_W} {rt : S → Option Value} {ws1 : S → va_W} {post : S → Prop} (lv0 : List (Option Value)) (hlv : lvs As n = lv0) (hn : (lve As).length ≤ n) (hy : plainName y.cls = true)
    (h : ∀ x : jE, jG γ x rm b y.cls r → jE0 γ x ws0 rt ws1 post rm.cells rm.slots → (jmt x).name = y.name → J γ l x ws0 lv0 [] 0 0 0) : jM l γ y b n r rm As ws0 rt ws1 post := by
  intro sz
  refine Met.ofW (cc := b) (maxL := n) (ret := r) hy rfl ?_
  intro p e s m args below meth c s₁ B hml hv
  obtain ⟨rfl, hsz, hP, hK, hD0, hX0⟩ := hv
  subst hsz
  have hts := atoms_spec (ws := jw y b n r) B.pre
  have k := h (p, e, (headSpec (jw y b n r) rm).room, s, m, As.toArray, below, meth, c, va_A ws0 s.heap.size, n, MQ below (jQc γ ws0 s.heap.size rt ws1 post) As.toArray s rm.cells rm.slots (va_A ws0 s.heap.size))
    ⟨B.exec, B.bytes, hml, findClass_of_methodNamed B.named, fun w hw => hts w (List.mem_cons_of_mem _ hw), hK, B.returns, B.notSynchronized, fun q hq => Or.inr hq, rfl, hX0⟩ ⟨rfl, rfl⟩ (name_of_methodNamed B.named B.method).1
    s.heap [] _ hP hD0.self va_S.rf (by rw [← hlv]; exact lvx_entry As hn)
  rw [lg_entry_eq]
  exact k
theorem jFB (γ : jγ) (As : List Value) (ws0 : va_W) (sz : Nat) : FrameBlind (va_Pc As (jPre γ ws0 sz)) := by
  intro a U g mk q
  obtain ⟨q0, q1, qP, qK, qD, qX⟩ := q
  exact ⟨q0, q1, qP, va_K.moved (u := U) (U := U.calling g mk a) (Vm.Alike.refl U.vm) qK, qD, jXX.same (u := U) (U := U.calling g mk a) rfl qX⟩
section

variable {γ : jγ} {l : Launch} {x : jE} {ws : va_W} {lv : List (Option Value)} {st : List Value} {cs sl pc : Nat}
variable {rm : Room} {cc : ByteArray} {own : String} {ret : Option FieldType}

variable {S : Type} {rt : S → Option Value} {ws1 : S → va_W} {post : S → Prop} {ws0 : va_W} {mc ms : Nat}
theorem J.iret {v : Int32} (g : jG γ x rm cc own (some .int)) (hE : jE0 γ x ws0 rt ws1 post mc ms) (u : S) (hr : rt u = some (.int v)) (hp : post u) (hw : ws1 u = ws) (hc : cs ≤ mc ∧ sl ≤ ms) (hd : decode cc pc = .ok (.ireturn, 1)) : J γ l x ws lv [.int v] cs sl pc := fun H locs ls hP hD hS hl0 => W.widen hc.1 hc.2 (hE.2.symm ▸ W.iret g.1 g.2.1 g.2.2.2.2.2.2.1 (fun t ht hW => ⟨⟨u, by rw [hr], hp, by rw [ht, hw]; exact hP, va_K.moved hW.alike g.2.2.2.2.2.1, by rw [hw, ← hE.1]; exact hD⟩, by rw [← hE.1]; exact hS.F ht⟩) (by rw [← hE.1]; exact hS.2.2) hd g.2.2.2.2.2.2.2.1)
theorem J.zret {v : Int32} {ty : FieldType} (hn : narrow ty (.int v) = .int v) (g : jG γ x rm cc own (some ty)) (hE : jE0 γ x ws0 rt ws1 post mc ms) (u : S) (hr : rt u = some (.int v)) (hp : post u) (hw : ws1 u = ws) (hc : cs ≤ mc ∧ sl ≤ ms) (hd : decode cc pc = .ok (.ireturn, 1)) : J γ l x ws lv [.int v] cs sl pc := fun H locs ls hP hD hS hl0 => W.widen hc.1 hc.2 (hE.2.symm ▸ W.zret g.1 g.2.1 g.2.2.2.2.2.2.1 hn (fun t ht hW => ⟨⟨u, by rw [hr], hp, by rw [ht, hw]; exact hP, va_K.moved hW.alike g.2.2.2.2.2.1, by rw [hw, ← hE.1]; exact hD⟩, by rw [← hE.1]; exact hS.F ht⟩) (by rw [← hE.1]; exact hS.2.2) hd g.2.2.2.2.2.2.2.1)
theorem J.lret {v : Int64} (g : jG γ x rm cc own (some .long)) (hE : jE0 γ x ws0 rt ws1 post mc ms) (u : S) (hr : rt u = some (.long v)) (hp : post u) (hw : ws1 u = ws) (hc : cs ≤ mc ∧ sl ≤ ms) (hd : decode cc pc = .ok (.lreturn, 1)) : J γ l x ws lv [.long v] cs sl pc := fun H locs ls hP hD hS hl0 => W.widen hc.1 hc.2 (hE.2.symm ▸ W.lret g.1 g.2.1 g.2.2.2.2.2.2.1 (fun t ht hW => ⟨⟨u, by rw [hr], hp, by rw [ht, hw]; exact hP, va_K.moved hW.alike g.2.2.2.2.2.1, by rw [hw, ← hE.1]; exact hD⟩, by rw [← hE.1]; exact hS.F ht⟩) (by rw [← hE.1]; exact hS.2.2) hd g.2.2.2.2.2.2.2.1)
theorem J.vret (g : jG γ x rm cc own none) (hE : jE0 γ x ws0 rt ws1 post mc ms) (u : S) (hr : rt u = none) (hp : post u) (hw : ws1 u = ws) (hc : cs ≤ mc ∧ sl ≤ ms) (hd : decode cc pc = .ok (.return_, 1)) : J γ l x ws lv [] cs sl pc := fun H locs ls hP hD hS hl0 => W.widen hc.1 hc.2 (hE.2.symm ▸ W.vret g.1 g.2.1 g.2.2.2.2.2.2.1 (fun t ht hW => ⟨⟨u, by rw [hr], hp, by rw [ht, hw]; exact hP, va_K.moved hW.alike g.2.2.2.2.2.1, by rw [hw, ← hE.1]; exact hD⟩, by rw [← hE.1]; exact hS.F ht⟩) (by rw [← hE.1]; exact hS.2.2) hd g.2.2.2.2.2.2.2.1)
theorem J.aret {v : Value} {C : String} (hv : v = .null ∨ ∃ a, v = .ref a) (g : jG γ x rm cc own (some (.object C))) (hE : jE0 γ x ws0 rt ws1 post mc ms) (u : S) (hr : rt u = some v) (hp : post u) (hw : ws1 u = ws) (hc : cs ≤ mc ∧ sl ≤ ms) (hd : decode cc pc = .ok (.areturn, 1)) : J γ l x ws lv [v] cs sl pc := fun H locs ls hP hD hS hl0 => W.widen hc.1 hc.2 (hE.2.symm ▸ W.aret g.1 g.2.1 g.2.2.2.2.2.2.1 (Or.inl ⟨C, rfl⟩) hv (fun t ht hW => ⟨⟨u, by rw [hr], hp, by rw [ht, hw]; exact hP, va_K.moved hW.alike g.2.2.2.2.2.1, by rw [hw, ← hE.1]; exact hD⟩, by rw [← hE.1]; exact hS.F ht⟩) (by rw [← hE.1]; exact hS.2.2) hd g.2.2.2.2.2.2.2.1)
end
section

variable {γ : jγ} {l : Launch} {x : jE} {ws : va_W} {lv : List (Option Value)} {st : List Value} {cs sl pc : Nat}
variable {rm : Room} {cc : ByteArray} {own : String} {ret : Option FieldType}

variable {S : Type} {rt : S → Option Value} {ws1 : S → va_W} {post : S → Prop} {wc : va_W} {y : MethodName} {b : ByteArray} {nl : Nat} {r : Option FieldType} {r2 : Room} {As : List Value} {rest : List Value} {ix : Nat}
theorem j_callB (g : jG γ x rm cc own ret) {na : Nat} (h1 : Cond.code y b nl r ∈ jTT ∧ Cond.initialized y.cls ∈ jTT) (h2 : y.cls ≠ "java/lang/invoke/MethodHandle" ∧ y.cls ≠ "java/lang/invoke/VarHandle" ∧ (parseMethodDescriptor y.desc).map (fun d => d.parameters.length) = some na) (hw : Cond.methodLink own ix y ∈ jTT) (hR : r2.frames + 1 ≤ rm.frames ∧ 8 + (nl + 11) + r2.locals ≤ rm.locals) : CallB (jR x) (jS x) (ja x) own ix y b nl r (jw y b nl r) r2 r2.cells r2.slots na := by
  have ok : ∀ w ∈ jTT, w.before (ja x) (jS x) = true := g.2.2.2.2.1
  refine ⟨rfl, rfl, by rw [g.2.2.2.2.2.2.2.2.2.1]; exact hR.1, by rw [g.2.2.2.2.2.2.2.2.2.1]; exact hR.2, fun w hw a' U hW => ?_, List.mem_cons_self, ok _ h1.1, ok _ h1.2, ⟨h2.1, h2.2.1⟩, fun sig h => ?_, ok _ hw⟩
  · rcases List.mem_cons.mp hw with h | h
    · rw [h]; exact word_at hW (jTT_good h1.1) (ok _ h1.1)
    · exact word_at hW (jTT_good h) (ok _ h)
  · have h3 := h2.2.2
    rw [h] at h3
    exact (Option.some.inj h3).symm
theorem j_after (g : jG γ x rm cc own ret) (hH : ∀ (H : Heap) (locs : List Loc) (ls : Array Slot), va_P γ.1 vwCl ws H → va_D (jA x) ws → va_S (jA x) (jS x).heap H locs → lvx ls (jN x) lv → va_Run (jp x) l (je x) (jR x) (jS x) (jm x) (ja x) (jb x) (jmt x) (jcd x) H locs cs sl r2.cells r2.slots (F0 (jm x) pc ls st) rest (jQc γ wc H.size rt ws1 post As.toArray) (va_A wc H.size)) (is : List Nat) (hC : is.map (fun i => ws[i]?) = wc.map some) (ha : ∀ u : S, ((ws1 u).take wc.length).map Prod.fst = wc.map Prod.fst)
    (kk : ∀ u : S, post u → J γ l x (jput ws is (ws1 u)) lv ((rt u).toList ++ rest) (cs + r2.cells) (sl + r2.slots) (pc + 3)) : J γ l x ws lv st cs sl pc := by
  intro H locs ls hP hD hS hl0 T hT X
  obtain ⟨v, st₀, t, T', L, h0, X', hL, e1, e2, ⟨⟨u, hv, hp, hP1, hK1, hD1⟩, hz, hk⟩, stp⟩ := hH H locs ls hP hD hS hl0 T hT X
  have hv : v = rt u := Outcome.returned.inj hv
  subst hv
  rw [h0] at hz hk
  have hF : ∀ q, va_A wc H.size q → jA x q := va_free hD hS g.2.2.2.2.2.2.2.2.1 is hC
  obtain ⟨hP2, hD2⟩ := jput_join hP hD is hC (ha u) hk hF hP1 hD1
  rw [← e1] at hP2 hz hk
  obtain ⟨t2, a1, b1⟩ := kk u hp T'.heap (locs ++ L) ls hP2 hD2 ⟨Nat.le_trans hS.1 hz, fun q h1 h2 => by
      rw [hk q (Nat.lt_of_lt_of_le h1 hS.1) (fun z => h2 (hF q z))]; exact hS.2.1 q h1 h2, fun q hq => by
      rcases List.mem_append.mp hq with h | h
      · exact hS.2.2 q h
      · exact hF _ (hL q h)⟩ hl0 T' rfl X'
  exact ⟨t2, stp t2 a1, b1⟩
theorem jsub {D : va_G} {cl : List vw_C} {ws wc : va_W} {H : Heap} (hP : va_P D cl ws H) (is : List Nat) (hC : is.map (fun i => ws[i]?) = wc.map some) : va_P D cl wc H := by
  refine hP.sub is ?_
  have h := congrArg (List.filterMap id) hC
  simpa [List.filterMap_map, Function.comp_def] using h
theorem J.callV (g : jG γ x rm cc own ret) {a ci q0 : Nat} {fs : List Value} {T : u_T} {N : Nat} (hM : jM l γ y b nl r r2 (.ref a :: As) wc rt ws1 post) (hy : jY y b nl r As.length false) (hw : Cond.methodLink own ix y ∈ jTT) (hq : ws[q0]? = some (a, .inr (ci, fs))) (hci : vwCl[ci]? = some (y.cls, T, N)) (hR : (r2.frames + 1 ≤ rm.frames ∧ 8 + (nl + 11) + r2.locals ≤ rm.locals) ∧ cs + r2.cells ≤ rm.cells ∧ sl + r2.slots ≤ rm.slots) (hrest : (rest.map fun v => v.category).sum ≤ 8) (hst : st = As.reverse ++ .ref a :: rest) (is : List Nat) (hC : is.map (fun i => ws[i]?) = wc.map some) (ha : ∀ u : S, ((ws1 u).take wc.length).map Prod.fst = wc.map Prod.fst) (hnd : va_nd is = true) (hd : decode cc pc = .ok (.invokevirtual ix, 3)) (kk : ∀ u : S, post u → J γ l x (jput ws is (ws1 u)) lv ((rt u).toList ++ rest) (cs + r2.cells) (sl + r2.slots) (pc + 3)) : J γ l x ws lv st cs sl pc := by
  have cb := j_callB g hy.1 hy.2.1 hw hR.1
  have ok : ∀ w ∈ jTT, w.before (ja x) (jS x) = true := g.2.2.2.2.1
  refine j_after g (As := (.ref a :: As)) (r2 := r2) (wc := wc) (rt := rt) (ws1 := ws1) (post := post) (rest := rest) (fun H locs ls hP hD hS hl0 => ?_) is hC ha kk
  have hDc : va_D (fun _ => True) wc := (hD.sub is hnd hC).weaken (fun _ _ _ _ => trivial)
  have hpre : ∀ U : State, U.heap = H → (jS x).WarmedH U.vm → va_Pc (.ref a :: As) (jPre γ wc H.size) ((.ref a :: As) : List Value).toArray U := fun U hU hW => ⟨rfl, by rw [hU], by rw [hU]; exact jsub hP is hC, va_K.moved hW.alike g.2.2.2.2.2.1, hDc, by rw [hU]; exact ((g.2.2.2.2.2.2.2.2.2.2.kept (H1 := H) hS.2.1).narrow (va_free hD hS g.2.2.2.2.2.2.2.2.1 is hC)).warm hW⟩
  exact va_runV (As := As) (rest := rest) ⟨g.1, g.2.1, g.2.2.1, g.2.2.2.1, g.2.2.2.2.1⟩ (hM H.size) ⟨cb, ok _ hy.2.2.1, ok _ hy.2.2.2⟩ ⟨jFB γ _ _ _, va_recv g.2.2.2.2.2.1 hP hci hq, hpre⟩ rfl rfl hl0.2.1 hst (lv_room hrest) hd (by rw [g.2.2.2.2.2.2.2.2.2.1]; exact hR.2)
theorem J.callS (g : jG γ x rm cc own ret) (hM : jM l γ y b nl r r2 As wc rt ws1 post) (hy : jY y b nl r As.length true) (hw : Cond.methodLink own ix y ∈ jTT) (hR : (r2.frames + 1 ≤ rm.frames ∧ 8 + (nl + 11) + r2.locals ≤ rm.locals) ∧ cs + r2.cells ≤ rm.cells ∧ sl + r2.slots ≤ rm.slots) (hrest : (rest.map fun v => v.category).sum ≤ 8) (hst : st = As.reverse ++ rest) (is : List Nat) (hC : is.map (fun i => ws[i]?) = wc.map some) (ha : ∀ u : S, ((ws1 u).take wc.length).map Prod.fst = wc.map Prod.fst) (hnd : va_nd is = true) (hd : decode cc pc = .ok (.invokestatic ix, 3)) (kk : ∀ u : S, post u → J γ l x (jput ws is (ws1 u)) lv ((rt u).toList ++ rest) (cs + r2.cells) (sl + r2.slots) (pc + 3)) : J γ l x ws lv st cs sl pc := by
  have cb := j_callB g hy.1 hy.2.1 hw hR.1
  have ok : ∀ w ∈ jTT, w.before (ja x) (jS x) = true := g.2.2.2.2.1
  refine j_after g (As := As) (r2 := r2) (wc := wc) (rt := rt) (ws1 := ws1) (post := post) (rest := rest) (fun H locs ls hP hD hS hl0 => ?_) is hC ha kk
  have hDc : va_D (fun _ => True) wc := (hD.sub is hnd hC).weaken (fun _ _ _ _ => trivial)
  have hpre : ∀ U : State, U.heap = H → (jS x).WarmedH U.vm → va_Pc As (jPre γ wc H.size) (As : List Value).toArray U := fun U hU hW => ⟨rfl, by rw [hU], by rw [hU]; exact jsub hP is hC, va_K.moved hW.alike g.2.2.2.2.2.1, hDc, by rw [hU]; exact ((g.2.2.2.2.2.2.2.2.2.2.kept (H1 := H) hS.2.1).narrow (va_free hD hS g.2.2.2.2.2.2.2.2.1 is hC)).warm hW⟩
  exact va_runS (As := As) (rest := rest) ⟨g.1, g.2.1, g.2.2.1, g.2.2.2.1, g.2.2.2.2.1⟩ (hM H.size) ⟨cb, ok _ hy.2.2⟩ ⟨jFB γ _ _ _, hpre⟩ rfl rfl hl0.2.1 hst (lv_room hrest) hd (by rw [g.2.2.2.2.2.2.2.2.2.1]; exact hR.2)
theorem J.callI (g : jG γ x rm cc own ret) {a : Nat} (hM : jM l γ y b nl none r2 (.ref a :: As) wc rt ws1 post) (hy : jYI y b nl none As.length) (hw : Cond.methodLink own ix y ∈ jTT) (hyn : y.name = "<init>") (hR : (r2.frames + 1 ≤ rm.frames ∧ 8 + (nl + 11) + r2.locals ≤ rm.locals) ∧ cs + r2.cells ≤ rm.cells ∧ sl + r2.slots ≤ rm.slots) (hrest : (rest.map fun v => v.category).sum ≤ 8) (hst : st = As.reverse ++ .ref a :: rest) (is : List Nat) (hC : is.map (fun i => ws[i]?) = wc.map some) (ha : ∀ u : S, ((ws1 u).take wc.length).map Prod.fst = wc.map Prod.fst) (hnd : va_nd is = true) (hd : decode cc pc = .ok (.invokespecial ix, 3)) (kk : ∀ u : S, post u → J γ l x (jput ws is (ws1 u)) lv ((rt u).toList ++ rest) (cs + r2.cells) (sl + r2.slots) (pc + 3)) : J γ l x ws lv st cs sl pc := by
  have cb := j_callB g hy.1 hy.2.1 hw hR.1
  have ok : ∀ w ∈ jTT, w.before (ja x) (jS x) = true := g.2.2.2.2.1
  refine j_after g (As := (.ref a :: As)) (r2 := r2) (wc := wc) (rt := rt) (ws1 := ws1) (post := post) (rest := rest) (fun H locs ls hP hD hS hl0 => ?_) is hC ha kk
  have hDc : va_D (fun _ => True) wc := (hD.sub is hnd hC).weaken (fun _ _ _ _ => trivial)
  have hpre : ∀ U : State, U.heap = H → (jS x).WarmedH U.vm → va_Pc (.ref a :: As) (jPre γ wc H.size) ((.ref a :: As) : List Value).toArray U := fun U hU hW => ⟨rfl, by rw [hU], by rw [hU]; exact jsub hP is hC, va_K.moved hW.alike g.2.2.2.2.2.1, hDc, by rw [hU]; exact ((g.2.2.2.2.2.2.2.2.2.2.kept (H1 := H) hS.2.1).narrow (va_free hD hS g.2.2.2.2.2.2.2.2.1 is hC)).warm hW⟩
  exact va_runI (As := As) (rest := rest) ⟨g.1, g.2.1, g.2.2.1, g.2.2.2.1, g.2.2.2.2.1⟩ (hM H.size) ⟨cb, hyn, ok _ hy.2.2⟩ ⟨jFB γ _ _ _, hpre⟩ rfl rfl hl0.2.1 hst (lv_room hrest) hd (by rw [g.2.2.2.2.2.2.2.2.2.1]; exact hR.2)
theorem jput_same : ∀ (is : List Nat) (ws wc : va_W), is.map (fun i => ws[i]?) = wc.map some → jput ws is wc = ws
  | [], ws, wc, h => by
    have : wc = [] := by cases wc with
      | nil => rfl
      | cons a b => simp at h
    subst this
    simp [jput]
  | i :: is, ws, [], h => by simp at h
  | i :: is, ws, e :: es, h => by
    have h1 : ws[i]? = some e := by simpa using congrArg List.head? h
    have h2 : is.map (fun i => ws[i]?) = es.map some := by simpa using congrArg List.tail h
    have hlt : i < ws.length := (List.getElem?_eq_some_iff.mp h1).1
    have h3 : ws.set i e = ws := by
      apply List.ext_getElem?
      intro k
      rw [List.getElem?_set]
      by_cases hk : i = k
      · subst hk; rw [if_pos rfl, if_pos hlt, h1]
      · simp [hk]
    rw [jput, h3]
    exact jput_same is ws es h2
def jpush : Option Value → List Value → List Value
  | some v, r => v :: r
  | none, r => r
theorem jpush_eq (o : Option Value) (r : List Value) : o.toList ++ r = jpush o r := by cases o <;> rfl
theorem J.callV0 (g : jG γ x rm cc own ret) {a ci q0 : Nat} {fs : List Value} {T : u_T} {N : Nat} (hM : jM l γ y b nl r r2 (.ref a :: As) wc rt (fun _ : S => wc) post) (hy : jY y b nl r As.length false) (hw : Cond.methodLink own ix y ∈ jTT) (hq : ws[q0]? = some (a, .inr (ci, fs))) (hci : vwCl[ci]? = some (y.cls, T, N)) (hR : (r2.frames + 1 ≤ rm.frames ∧ 8 + (nl + 11) + r2.locals ≤ rm.locals) ∧ cs + r2.cells ≤ rm.cells ∧ sl + r2.slots ≤ rm.slots) (hrest : (rest.map fun v => v.category).sum ≤ 8) (hst : st = As.reverse ++ .ref a :: rest) (is : List Nat) (hC : is.map (fun i => ws[i]?) = wc.map some) (hnd : va_nd is = true) (hd : decode cc pc = .ok (.invokevirtual ix, 3)) (kk : ∀ u : S, post u → J γ l x ws lv (jpush (rt u) rest) (cs + r2.cells) (sl + r2.slots) (pc + 3)) : J γ l x ws lv st cs sl pc := J.callV g hM hy hw hq hci hR hrest hst is hC (fun _ => by rw [List.take_length]) hnd hd (fun u hp => by rw [jput_same is ws wc hC, jpush_eq]; exact kk u hp)
theorem J.callS0 (g : jG γ x rm cc own ret) (hM : jM l γ y b nl r r2 As wc rt (fun _ : S => wc) post) (hy : jY y b nl r As.length true) (hw : Cond.methodLink own ix y ∈ jTT) (hR : (r2.frames + 1 ≤ rm.frames ∧ 8 + (nl + 11) + r2.locals ≤ rm.locals) ∧ cs + r2.cells ≤ rm.cells ∧ sl + r2.slots ≤ rm.slots) (hrest : (rest.map fun v => v.category).sum ≤ 8) (hst : st = As.reverse ++ rest) (is : List Nat) (hC : is.map (fun i => ws[i]?) = wc.map some) (hnd : va_nd is = true) (hd : decode cc pc = .ok (.invokestatic ix, 3)) (kk : ∀ u : S, post u → J γ l x ws lv (jpush (rt u) rest) (cs + r2.cells) (sl + r2.slots) (pc + 3)) : J γ l x ws lv st cs sl pc := J.callS g hM hy hw hR hrest hst is hC (fun _ => by rw [List.take_length]) hnd hd (fun u hp => by rw [jput_same is ws wc hC, jpush_eq]; exact kk u hp)
end
/-! rows over numbers: nI a for a natural a -/
def jB (p : Bool) : Int32 := if p then nI 1 else nI 0
theorem j_k (k : Nat) : Int32.ofInt (k : Int) = nI k := by
  unfold nI
  exact Int32.ofInt_eq_ofNat
theorem j_inc (a k : Nat) : nI a + Int32.ofInt (k : Int) = nI (a + k) := by rw [j_k, nI_add]
theorem j_dec {a : Nat} (h : 1 ≤ a) : nI a + Int32.ofInt (-1) = nI (a - 1) := by
  obtain ⟨b, rfl⟩ : ∃ b, a = b + 1 := ⟨a - 1, by omega⟩
  exact pk_m1 b
section

variable {γ : jγ} {l : Launch} {x : jE} {ws : va_W} {lv : List (Option Value)} {st : List Value} {cs sl pc : Nat}
variable {rm : Room} {cc : ByteArray} {own : String} {ret : Option FieldType}

theorem J.iconstN (g : jG γ x rm cc own ret) (k : Nat) (hd : decode cc pc = .ok (.iconst (k : Int), 1)) (kk : J γ l x ws lv (.int (nI k) :: st) cs sl (pc + 1)) : J γ l x ws lv st cs sl pc := J.iconst g hd (j_k k) kk
theorem J.iaddN (g : jG γ x rm cc own ret) {a9 b9 : Nat} (hd : decode cc pc = .ok (.iadd, 1)) (kk : J γ l x ws lv (.int (nI (a9 + b9)) :: st) cs sl (pc + 1)) : J γ l x ws lv (.int (nI b9) :: .int (nI a9) :: st) cs sl pc := J.iadd' g hd (nI_add a9 b9) kk
theorem J.imulN (g : jG γ x rm cc own ret) {a9 b9 : Nat} (hd : decode cc pc = .ok (.imul, 1)) (kk : J γ l x ws lv (.int (nI (a9 * b9)) :: st) cs sl (pc + 1)) : J γ l x ws lv (.int (nI b9) :: .int (nI a9) :: st) cs sl pc := J.imul' g hd (pk_mul a9 b9) kk
theorem J.isubN (g : jG γ x rm cc own ret) {a9 b9 : Nat} (hd : decode cc pc = .ok (.isub, 1)) (h : b9 ≤ a9) (kk : J γ l x ws lv (.int (nI (a9 - b9)) :: st) cs sl (pc + 1)) : J γ l x ws lv (.int (nI b9) :: .int (nI a9) :: st) cs sl pc := J.isub' g hd (pk_sub h) kk
theorem J.idivN (g : jG γ x rm cc own ret) {a9 b9 : Nat} (hd : decode cc pc = .ok (.idiv, 1)) (ha : a9 < 2 ^ 31) (h : 0 < b9) (hb : b9 < 2 ^ 31) (kk : J γ l x ws lv (.int (nI (a9 / b9)) :: st) cs sl (pc + 1)) : J γ l x ws lv (.int (nI b9) :: .int (nI a9) :: st) cs sl pc := J.idiv g hd (nI_ne0 h hb) (pk_div ha h hb) kk
theorem J.iremN (g : jG γ x rm cc own ret) {a9 b9 : Nat} (hd : decode cc pc = .ok (.irem, 1)) (ha : a9 < 2 ^ 31) (h : 0 < b9) (hb : b9 < 2 ^ 31) (kk : J γ l x ws lv (.int (nI (a9 % b9)) :: st) cs sl (pc + 1)) : J γ l x ws lv (.int (nI b9) :: .int (nI a9) :: st) cs sl pc := J.irem g hd (nI_ne0 h hb) (pk_rem ha h hb) kk
theorem J.iincN (g : jG γ x rm cc own ret) (k : Nat) {i a9 : Nat} (hd : decode cc pc = .ok (.iinc i (k : Int), 3)) (hj : jc lv = true) (hx : lv[i]? = some (some (.int (nI a9)))) (kk : J γ l x ws (lv.set i (some (.int (nI (a9 + k))))) st cs sl (pc + 3)) : J γ l x ws lv st cs sl pc := J.iinc g hd hj hx (j_inc a9 k) kk
theorem J.idecN (g : jG γ x rm cc own ret) {i a9 : Nat} (hd : decode cc pc = .ok (.iinc i (-1), 3)) (hj : jc lv = true) (hx : lv[i]? = some (some (.int (nI a9)))) (h : 1 ≤ a9) (kk : J γ l x ws (lv.set i (some (.int (nI (a9 - 1))))) st cs sl (pc + 3)) : J γ l x ws lv st cs sl pc := J.iinc g hd hj hx (j_dec h) kk
theorem J.icmp_eqN (g : jG γ x rm cc own ret) {a9 b9 : Nat} {off : Int} {tgt : Nat} (hd : decode cc pc = .ok (.if_icmp .eq off, 3)) (ht : (pc : Int) + off = (tgt : Int)) (ha : a9 < 2 ^ 31) (hb : b9 < 2 ^ 31) (kt : a9 = b9 → J γ l x ws lv st cs sl tgt) (kf : ¬ a9 = b9 → J γ l x ws lv st cs sl (pc + 3)) : J γ l x ws lv (.int (nI b9) :: .int (nI a9) :: st) cs sl pc := J.icmp_eq g hd ht (fun q => kt ((nI_eq ha hb).mp q)) (fun q => kf (fun z => q ((nI_eq ha hb).mpr z)))
theorem J.icmp_neN (g : jG γ x rm cc own ret) {a9 b9 : Nat} {off : Int} {tgt : Nat} (hd : decode cc pc = .ok (.if_icmp .ne off, 3)) (ht : (pc : Int) + off = (tgt : Int)) (ha : a9 < 2 ^ 31) (hb : b9 < 2 ^ 31) (kt : ¬ a9 = b9 → J γ l x ws lv st cs sl tgt) (kf : a9 = b9 → J γ l x ws lv st cs sl (pc + 3)) : J γ l x ws lv (.int (nI b9) :: .int (nI a9) :: st) cs sl pc := J.icmp_ne g hd ht (fun q => kt (fun z => q ((nI_eq ha hb).mpr z))) (fun q => kf ((nI_eq ha hb).mp q))
theorem J.icmp_ltN (g : jG γ x rm cc own ret) {a9 b9 : Nat} {off : Int} {tgt : Nat} (hd : decode cc pc = .ok (.if_icmp .lt off, 3)) (ht : (pc : Int) + off = (tgt : Int)) (ha : a9 < 2 ^ 31) (hb : b9 < 2 ^ 31) (kt : a9 < b9 → J γ l x ws lv st cs sl tgt) (kf : b9 ≤ a9 → J γ l x ws lv st cs sl (pc + 3)) : J γ l x ws lv (.int (nI b9) :: .int (nI a9) :: st) cs sl pc := J.icmp_lt g hd ht (fun q => kt ((nI_ltI ha hb).mp q)) (fun q => kf (Nat.not_lt.mp fun z => q ((nI_ltI ha hb).mpr z)))
theorem J.icmp_geN (g : jG γ x rm cc own ret) {a9 b9 : Nat} {off : Int} {tgt : Nat} (hd : decode cc pc = .ok (.if_icmp .ge off, 3)) (ht : (pc : Int) + off = (tgt : Int)) (ha : a9 < 2 ^ 31) (hb : b9 < 2 ^ 31) (kt : b9 ≤ a9 → J γ l x ws lv st cs sl tgt) (kf : a9 < b9 → J γ l x ws lv st cs sl (pc + 3)) : J γ l x ws lv (.int (nI b9) :: .int (nI a9) :: st) cs sl pc := J.icmp_ge g hd ht (fun q => kt ((nI_leI hb ha).mp q)) (fun q => kf (Nat.not_le.mp fun z => q ((nI_leI hb ha).mpr z)))
theorem J.icmp_gtN (g : jG γ x rm cc own ret) {a9 b9 : Nat} {off : Int} {tgt : Nat} (hd : decode cc pc = .ok (.if_icmp .gt off, 3)) (ht : (pc : Int) + off = (tgt : Int)) (ha : a9 < 2 ^ 31) (hb : b9 < 2 ^ 31) (kt : b9 < a9 → J γ l x ws lv st cs sl tgt) (kf : a9 ≤ b9 → J γ l x ws lv st cs sl (pc + 3)) : J γ l x ws lv (.int (nI b9) :: .int (nI a9) :: st) cs sl pc := J.icmp_gt g hd ht (fun q => kt ((nI_ltI hb ha).mp q)) (fun q => kf (Nat.not_lt.mp fun z => q ((nI_ltI hb ha).mpr z)))
theorem J.icmp_leN (g : jG γ x rm cc own ret) {a9 b9 : Nat} {off : Int} {tgt : Nat} (hd : decode cc pc = .ok (.if_icmp .le off, 3)) (ht : (pc : Int) + off = (tgt : Int)) (ha : a9 < 2 ^ 31) (hb : b9 < 2 ^ 31) (kt : a9 ≤ b9 → J γ l x ws lv st cs sl tgt) (kf : b9 < a9 → J γ l x ws lv st cs sl (pc + 3)) : J γ l x ws lv (.int (nI b9) :: .int (nI a9) :: st) cs sl pc := J.icmp_le g hd ht (fun q => kt ((nI_leI ha hb).mp q)) (fun q => kf (Nat.not_le.mp fun z => q ((nI_leI ha hb).mpr z)))
theorem J.if_eqN (g : jG γ x rm cc own ret) {a9 : Nat} {off : Int} {tgt : Nat} (hd : decode cc pc = .ok (.ifCond .eq off, 3)) (ht : (pc : Int) + off = (tgt : Int)) (ha : a9 < 2 ^ 31) (kt : a9 = 0 → J γ l x ws lv st cs sl tgt) (kf : ¬ a9 = 0 → J γ l x ws lv st cs sl (pc + 3)) : J γ l x ws lv (.int (nI a9) :: st) cs sl pc := J.if_eq g hd ht (fun q => kt ((nI_eq ha (by omega)).mp (q.trans nI_0.symm))) (fun q => kf (fun z => q (by rw [z]; exact nI_0)))
theorem J.if_neN (g : jG γ x rm cc own ret) {a9 : Nat} {off : Int} {tgt : Nat} (hd : decode cc pc = .ok (.ifCond .ne off, 3)) (ht : (pc : Int) + off = (tgt : Int)) (ha : a9 < 2 ^ 31) (kt : ¬ a9 = 0 → J γ l x ws lv st cs sl tgt) (kf : a9 = 0 → J γ l x ws lv st cs sl (pc + 3)) : J γ l x ws lv (.int (nI a9) :: st) cs sl pc := J.if_ne g hd ht (fun q => kt (fun z => q (by rw [z]; exact nI_0))) (fun q => kf ((nI_eq ha (by omega)).mp (q.trans nI_0.symm)))
theorem J.if_ltN (g : jG γ x rm cc own ret) {a9 : Nat} {off : Int} {tgt : Nat} (hd : decode cc pc = .ok (.ifCond .lt off, 3)) (ht : (pc : Int) + off = (tgt : Int)) (ha : a9 < 2 ^ 31) (kf : J γ l x ws lv st cs sl (pc + 3)) : J γ l x ws lv (.int (nI a9) :: st) cs sl pc := J.if_lt g hd ht (fun q => absurd q (nI_pos ha)) (fun _ => kf)
theorem J.if_geN (g : jG γ x rm cc own ret) {a9 : Nat} {off : Int} {tgt : Nat} (hd : decode cc pc = .ok (.ifCond .ge off, 3)) (ht : (pc : Int) + off = (tgt : Int)) (ha : a9 < 2 ^ 31) (kt : J γ l x ws lv st cs sl tgt) : J γ l x ws lv (.int (nI a9) :: st) cs sl pc := J.if_ge g hd ht (fun _ => kt) (fun q => absurd (nI_pos' ha) q)
theorem J.if_leN (g : jG γ x rm cc own ret) {a9 : Nat} {off : Int} {tgt : Nat} (hd : decode cc pc = .ok (.ifCond .le off, 3)) (ht : (pc : Int) + off = (tgt : Int)) (ha : a9 < 2 ^ 31) (kt : a9 = 0 → J γ l x ws lv st cs sl tgt) (kf : 0 < a9 → J γ l x ws lv st cs sl (pc + 3)) : J γ l x ws lv (.int (nI a9) :: st) cs sl pc := J.if_le g hd ht (fun q => kt (Nat.eq_zero_of_not_pos fun z => nI_nle z ha q)) (fun q => kf (Nat.pos_of_ne_zero fun z => q (by rw [z]; decide +kernel)))
theorem J.if_gtN (g : jG γ x rm cc own ret) {a9 : Nat} {off : Int} {tgt : Nat} (hd : decode cc pc = .ok (.ifCond .gt off, 3)) (ht : (pc : Int) + off = (tgt : Int)) (ha : a9 < 2 ^ 31) (kt : 0 < a9 → J γ l x ws lv st cs sl tgt) (kf : a9 = 0 → J γ l x ws lv st cs sl (pc + 3)) : J γ l x ws lv (.int (nI a9) :: st) cs sl pc := J.if_gt g hd ht (fun q => kt (Nat.pos_of_ne_zero fun z => absurd q (by rw [z]; decide +kernel))) (fun q => kf (Nat.eq_zero_of_not_pos fun z => q (by rw [Int32.lt_iff_toInt_lt, nI_toInt ha, Int32.toInt_zero]; omega)))
theorem J.if_eqB (g : jG γ x rm cc own ret) {p : Bool} {off : Int} {tgt : Nat} (hd : decode cc pc = .ok (.ifCond .eq off, 3)) (ht : (pc : Int) + off = (tgt : Int)) (kt : p = false → J γ l x ws lv st cs sl tgt) (kf : p = true → J γ l x ws lv st cs sl (pc + 3)) : J γ l x ws lv (.int (jB p) :: st) cs sl pc := J.if_eq g hd ht (fun q => kt (by cases p with | false => rfl | true => exact absurd q (by decide +kernel))) (fun q => kf (by cases p with | true => rfl | false => exact absurd (by decide +kernel) q))
theorem J.if_neB (g : jG γ x rm cc own ret) {p : Bool} {off : Int} {tgt : Nat} (hd : decode cc pc = .ok (.ifCond .ne off, 3)) (ht : (pc : Int) + off = (tgt : Int)) (kt : p = true → J γ l x ws lv st cs sl tgt) (kf : p = false → J γ l x ws lv st cs sl (pc + 3)) : J γ l x ws lv (.int (jB p) :: st) cs sl pc := J.if_ne g hd ht (fun q => kt (by cases p with | true => rfl | false => exact absurd (by decide +kernel) q)) (fun q => kf (by cases p with | false => rfl | true => exact absurd q (by decide +kernel)))
theorem J.ialdK (g : jG γ x rm cc own ret) (q0 : Nat) {a n k : Nat} {f : Nat → Int32} (ha : ws[q0]? = some (a, .inl (γ.2 0, n, .inl f))) (hk : k < n) (hn : n < 2 ^ 31) (hd : decode cc pc = .ok (.iaload, 1)) (kk : J γ l x ws lv (.int (f k) :: st) cs sl (pc + 1)) : J γ l x ws lv (.int (nI k) :: .ref a :: st) cs sl pc := J.iald g q0 ha (vp_in_nI hk hn) (by rw [nI_clamp (by omega)]) hd kk
theorem J.ialdN (g : jG γ x rm cc own ret) (q0 : Nat) {a n k : Nat} {f : Nat → Nat} (ha : ws[q0]? = some (a, .inl (γ.2 0, n, .inl (fun j => nI (f j))))) (hk : k < n) (hn : n < 2 ^ 31) (hd : decode cc pc = .ok (.iaload, 1)) (kk : J γ l x ws lv (.int (nI (f k)) :: st) cs sl (pc + 1)) : J γ l x ws lv (.int (nI k) :: .ref a :: st) cs sl pc := J.iald g q0 ha (vp_in_nI hk hn) (by rw [nI_clamp (by omega)]) hd kk
theorem J.baldK (g : jG γ x rm cc own ret) (q0 : Nat) {a n k : Nat} {f : Nat → Int32} (ha : ws[q0]? = some (a, .inl (γ.2 1, n, .inl f))) (hk : k < n) (hn : n < 2 ^ 31) (hd : decode cc pc = .ok (.baload, 1)) (kk : J γ l x ws lv (.int (f k) :: st) cs sl (pc + 1)) : J γ l x ws lv (.int (nI k) :: .ref a :: st) cs sl pc := J.bald g q0 ha (vp_in_nI hk hn) (by rw [nI_clamp (by omega)]) hd kk
theorem J.baldN (g : jG γ x rm cc own ret) (q0 : Nat) {a n k : Nat} {f : Nat → Nat} (ha : ws[q0]? = some (a, .inl (γ.2 1, n, .inl (fun j => nI (f j))))) (hk : k < n) (hn : n < 2 ^ 31) (hd : decode cc pc = .ok (.baload, 1)) (kk : J γ l x ws lv (.int (nI (f k)) :: st) cs sl (pc + 1)) : J γ l x ws lv (.int (nI k) :: .ref a :: st) cs sl pc := J.bald g q0 ha (vp_in_nI hk hn) (by rw [nI_clamp (by omega)]) hd kk
theorem J.zaldK (g : jG γ x rm cc own ret) (q0 : Nat) {a n k : Nat} {f : Nat → Int32} (ha : ws[q0]? = some (a, .inl (γ.2 2, n, .inl f))) (hk : k < n) (hn : n < 2 ^ 31) (hd : decode cc pc = .ok (.baload, 1)) (kk : J γ l x ws lv (.int (f k) :: st) cs sl (pc + 1)) : J γ l x ws lv (.int (nI k) :: .ref a :: st) cs sl pc := J.zald g q0 ha (vp_in_nI hk hn) (by rw [nI_clamp (by omega)]) hd kk
theorem J.zaldN (g : jG γ x rm cc own ret) (q0 : Nat) {a n k : Nat} {f : Nat → Nat} (ha : ws[q0]? = some (a, .inl (γ.2 2, n, .inl (fun j => nI (f j))))) (hk : k < n) (hn : n < 2 ^ 31) (hd : decode cc pc = .ok (.baload, 1)) (kk : J γ l x ws lv (.int (nI (f k)) :: st) cs sl (pc + 1)) : J γ l x ws lv (.int (nI k) :: .ref a :: st) cs sl pc := J.zald g q0 ha (vp_in_nI hk hn) (by rw [nI_clamp (by omega)]) hd kk
theorem J.iastK (g : jG γ x rm cc own ret) (q0 : Nat) {a n k : Nat} {f : Nat → Int32} {v : Int32} (ha : ws[q0]? = some (a, .inl (γ.2 0, n, .inl f))) (hk : k < n) (hn : n < 2 ^ 31) (hd : decode cc pc = .ok (.iastore, 1)) (kk : J γ l x (ws.set q0 (a, .inl (γ.2 0, n, .inl (va_up f k v)))) lv st cs sl (pc + 1)) : J γ l x ws lv (.int v :: .int (nI k) :: .ref a :: st) cs sl pc := J.iast g q0 ha (vp_in_nI hk hn) hd (by rw [nI_clamp (by omega)]; exact kk)
theorem J.qaldK (g : jG γ x rm cc own ret) (q0 t0 : Nat) {a n k r : Nat} {cA : ClassId} {ty : FieldType} {f : Nat → Option Nat} (ha : ws[q0]? = some (a, .inl (cA, n, .inr (.inr (.inr (.inr f)))))) (ht : (jT γ)[t0]? = some (cA, ty)) (hty : ty.isReference = true) (hk : k < n) (hn : n < 2 ^ 31) (hf : f k = some r) (hd : decode cc pc = .ok (.aaload, 1)) (kk : J γ l x ws lv (.ref r :: st) cs sl (pc + 1)) : J γ l x ws lv (.int (nI k) :: .ref a :: st) cs sl pc := J.qald g q0 t0 ha ht hty (vp_in_nI hk hn) (by rw [nI_clamp (by omega), hf]; rfl) hd kk
theorem J.bastK (g : jG γ x rm cc own ret) (q0 : Nat) {a n k : Nat} {f : Nat → Int32} {v : Int32} (ha : ws[q0]? = some (a, .inl (γ.2 1, n, .inl f))) (hk : k < n) (hn : n < 2 ^ 31) (hv : vp_nar .byte v = v) (hd : decode cc pc = .ok (.bastore, 1)) (kk : J γ l x (ws.set q0 (a, .inl (γ.2 1, n, .inl (va_up f k v)))) lv st cs sl (pc + 1)) : J γ l x ws lv (.int v :: .int (nI k) :: .ref a :: st) cs sl pc := J.bast g q0 ha (vp_in_nI hk hn) hd (by rw [nI_clamp (by omega), hv]; exact kk)
theorem j_upN (f : Nat → Nat) (k v : Nat) : upd (fun j => nI (f j)) k (nI v) = fun j => nI (va_up f k v j) := by
  funext j
  unfold upd va_up
  by_cases h : j = k
  · simp [h]
  · simp [h]
theorem J.iastN (g : jG γ x rm cc own ret) (q0 : Nat) {a n k v : Nat} {f : Nat → Nat} (ha : ws[q0]? = some (a, .inl (γ.2 0, n, .inl (fun j => nI (f j))))) (hk : k < n) (hn : n < 2 ^ 31) (hd : decode cc pc = .ok (.iastore, 1)) (kk : J γ l x (ws.set q0 (a, .inl (γ.2 0, n, .inl (fun j => nI (va_up f k v j))))) lv st cs sl (pc + 1)) : J γ l x ws lv (.int (nI v) :: .int (nI k) :: .ref a :: st) cs sl pc := J.iast g q0 ha (vp_in_nI hk hn) hd (by rw [nI_clamp (by omega), j_upN]; exact kk)
theorem j_nb : ∀ v, v < 128 → vp_nar .byte (nI v) = nI v := by decide +kernel
theorem J.bastN (g : jG γ x rm cc own ret) (q0 : Nat) {a n k v : Nat} {f : Nat → Nat} (ha : ws[q0]? = some (a, .inl (γ.2 1, n, .inl (fun j => nI (f j))))) (hk : k < n) (hn : n < 2 ^ 31) (hv : v < 128) (hd : decode cc pc = .ok (.bastore, 1)) (kk : J γ l x (ws.set q0 (a, .inl (γ.2 1, n, .inl (fun j => nI (va_up f k v j))))) lv st cs sl (pc + 1)) : J γ l x ws lv (.int (nI v) :: .int (nI k) :: .ref a :: st) cs sl pc := J.bast g q0 ha (vp_in_nI hk hn) hd (by rw [nI_clamp (by omega), j_nb v hv, j_upN]; exact kk)
end
/-- of the locals lv' at least those of lv -/
def jle : List (Option Value) → List (Option Value) → Prop
  | [], _ => True
  | none :: r, _ :: q => jle r q
  | some v :: r, o :: q => o = some v ∧ jle r q
  | _ :: _, [] => False
theorem jle_0 {q : List (Option Value)} : jle [] q := trivial
theorem jle_n {r q : List (Option Value)} {o : Option Value} (h : jle r q) : jle (none :: r) (o :: q) := h
theorem jle_s {r q : List (Option Value)} {v : Value} (h : jle r q) : jle (some v :: r) (some v :: q) := ⟨rfl, h⟩
theorem jle_at : ∀ (a b : List (Option Value)), jle a b → a.length ≤ b.length ∧ ∀ (i : Nat) (v : Value), a[i]? = some (some v) → b[i]? = some (some v)
  | [], b, _ => ⟨Nat.zero_le _, fun i v h => by simp at h⟩
  | none :: r, o :: q, h => by
    have h1 := jle_at r q h
    refine ⟨Nat.succ_le_succ h1.1, fun i v hv => ?_⟩
    cases i with
    | zero => simp at hv
    | succ i => simpa using h1.2 i v (by simpa using hv)
  | some v0 :: r, o :: q, h => by
    have h1 := jle_at r q h.2
    have ho : o = some v0 := h.1
    subst ho
    refine ⟨Nat.succ_le_succ h1.1, fun i v hv => ?_⟩
    cases i with
    | zero => simpa using hv
    | succ i => simpa using h1.2 i v (by simpa using hv)
  | none :: _, [], h => h.elim
  | some _ :: _, [], h => h.elim
theorem J.lvle {γ : jγ} {l : Launch} {x : jE} {ws : va_W} {lv lv' : List (Option Value)} {st : List Value} {cs sl pc : Nat} (h : jle lv' lv) (k : J γ l x ws lv' st cs sl pc) : J γ l x ws lv st cs sl pc := J.lvsub (jle_at _ _ h).1 (jle_at _ _ h).2 k

theorem jB_t {p : Bool} (h : p = true) : some (Value.int (jB p)) = some (.int (nI 1)) := by rw [h]; rfl
theorem jB_f {p : Bool} (h : p = false) : some (Value.int (jB p)) = some (.int (nI 0)) := by rw [h]; rfl
theorem j_nz (p : Bool) : narrow .boolean (.int (jB p)) = .int (jB p) := by cases p <;> rfl
/-- is i a place below n? -/
def jhas (i : Int32) (n : Nat) : Bool := decide (0 ≤ i.toInt ∧ i.toInt < n)
theorem jhas_n {k : Nat} (n : Nat) (h : k < 2 ^ 31) : jhas (nI k) n = decide (k < n) := by
  unfold jhas
  rw [nI_toInt h]
  simp only [decide_eq_decide]
  omega
theorem jhas_t {i : Int32} {n : Nat} (h : jhas i n = true) : ∃ k : Nat, k < n ∧ i = nI k := by
  unfold jhas at h
  have h := of_decide_eq_true h
  have h0 : ¬ i < 0 := by rw [Int32.lt_iff_toInt_lt, Int32.toInt_zero]; omega
  obtain ⟨j, hj, rfl⟩ := nI_of h0
  rw [nI_toInt hj] at h
  exact ⟨j, by omega, rfl⟩

theorem j_i2b : ∀ v, v < 128 → (nI v).toInt8.toInt32 = nI v := by decide +kernel