theorem up_lt {P : Nat → Nat → Prop} {h : Nat → Nat} {i v : Nat} (hh : ∀ k, k < i → P k (h k)) (hv : P i v) : ∀ k, k < i + 1 → P k (va_up h i v k) := by
  intro k hk
  unfold va_up
  by_cases z : k = i
  · subst z; simpa using hv
  · simp only [z, if_false]; exact hh k (by omega)
theorem up_at {h : Nat → Nat} {i v : Nat} : va_up h i v i = v := by simp [va_up]
theorem up_ne {h : Nat → Nat} {i v k : Nat} (z : k ≠ i) : va_up h i v k = h k := by simp [va_up, z]
/-! bits of numbers -/
theorem j_sl : ∀ k, k < 32 → ((nI k).toUInt32 &&& Int32.toUInt32 31).toBitVec.toNat % 32 = k := by decide +kernel
theorem j_sm : ∀ k, k < 32 → ((nI k &&& 31).toBitVec.smod 32).toNat = k := by decide +kernel
theorem j_ushr {a k : Nat} (ha : a < 2 ^ 32) (hk : k < 32) : ((nI a).toUInt32 >>> ((nI k).toUInt32 &&& Int32.toUInt32 31)).toInt32 = nI (a >>> k) := by
  rw [pk_ushrN ha (nI k) k (by rw [BitVec.toNat_umod]; exact j_sl k hk), Nat.shiftRight_eq_div_pow]
theorem j_shr {a k : Nat} (ha : a < 2 ^ 31) (hk : k < 32) : nI a >>> (nI k &&& 31) = nI (a >>> k) := by
  rw [pk_shrN ha (nI k &&& 31) k (j_sm k hk), Nat.shiftRight_eq_div_pow]
theorem j_shl {a k : Nat} (hk : k < 32) (h : a * 2 ^ k < 2 ^ 32) : nI a <<< (nI k &&& 31) = nI (a <<< k) := by
  rw [pk_shlN (nI k &&& 31) k (j_sm k hk) h, Nat.shiftLeft_eq]
theorem j_bv (a : Nat) : (nI a).toBitVec = BitVec.ofNat 32 a := rfl
theorem j_and (a b : Nat) : nI a &&& nI b = nI (a &&& b) := by
  apply Int32.toBitVec_inj.mp
  rw [Int32.toBitVec_and, j_bv, j_bv, j_bv]
  apply BitVec.eq_of_getLsbD_eq
  intro i hi
  simp [BitVec.getLsbD_and, BitVec.getLsbD_ofNat, Nat.testBit_and]
theorem j_or (a b : Nat) : nI a ||| nI b = nI (a ||| b) := by
  apply Int32.toBitVec_inj.mp
  rw [Int32.toBitVec_or, j_bv, j_bv, j_bv]
  apply BitVec.eq_of_getLsbD_eq
  intro i hi
  simp [BitVec.getLsbD_or, BitVec.getLsbD_ofNat, Nat.testBit_or]
theorem j_xor (a b : Nat) : nI a ^^^ nI b = nI (a ^^^ b) := by
  apply Int32.toBitVec_inj.mp
  rw [Int32.toBitVec_xor, j_bv, j_bv, j_bv]
  apply BitVec.eq_of_getLsbD_eq
  intro i hi
  simp [BitVec.getLsbD_xor, BitVec.getLsbD_ofNat, Nat.testBit_xor]
theorem jtb0 {a k : Nat} : (a >>> k) &&& 1 = 0 ↔ a.testBit k = false := by
  rw [Nat.and_comm]
  simp [Nat.testBit]
theorem jtb1 {a k : Nat} : ¬ (a >>> k) &&& 1 = 0 ↔ a.testBit k = true := by
  rw [jtb0]
  simp
/-! the group's words -/
/-- a and b together, out of the table mf of an order od -/
def jpl (od : Nat) (mf : Nat → Nat) (a b : Nat) : Nat := if a < od ∧ b < od then mf (a * 24 + b) else 0
def jop (od : Nat) (af : Nat → Nat) (a : Nat) : Nat := if a < od then af a else 0
def jmul (od : Nat) (mf : Nat → Nat) (a : Nat) : Nat → Nat
  | 0 => 0
  | u + 1 => jpl od mf (jmul od mf a u) a
/-- has u something in common with e? not: true -/
def junit (e u : Nat) : Bool := (List.range (u + 1)).all fun d => decide (d < 2) || !(decide (u % d = 0) && decide (e % d = 0))
/-- each element of a set, g added -/
def jmoved (od : Nat) (mf : Nat → Nat) (set g : Nat) : Nat → Nat
  | 0 => 0
  | e + 1 => if set.testBit e then jmoved od mf set g e ||| 1 <<< jpl od mf e g else jmoved od mf set g e
def jwo (od : Nat) (af : Nat → Nat) (set : Nat) : Nat → Nat
  | 0 => 0
  | g + 1 => if 1 ≤ g ∧ set.testBit (jop od af g) = false then jwo od af set g ||| 1 <<< g else jwo od af set g
/-- a table whose elements are elements -/
def jtab (od : Nat) (mf af : Nat → Nat) : Prop := od ≤ 24 ∧ (∀ a b, a < od → b < od → mf (a * 24 + b) < od) ∧ ∀ a, a < od → af a < od
theorem jpl_lt {od : Nat} {mf af : Nat → Nat} (h : jtab od mf af) (h0 : 0 < od) (a b : Nat) : jpl od mf a b < od := by
  unfold jpl
  split
  · exact h.2.1 a b (by omega) (by omega)
  · exact h0
theorem jpl_24 {od : Nat} {mf af : Nat → Nat} (h : jtab od mf af) (a b : Nat) : jpl od mf a b < 24 := by
  unfold jpl
  split
  · have := h.2.1 a b (by omega) (by omega); have := h.1; omega
  · omega
theorem jop_24 {od : Nat} {mf af : Nat → Nat} (h : jtab od mf af) (a : Nat) : jop od af a < 24 := by
  unfold jop
  split
  · have := h.2.2 a (by omega); have := h.1; omega
  · omega
theorem jmul_24 {od : Nat} {mf af : Nat → Nat} (h : jtab od mf af) (a u : Nat) : jmul od mf a u < 24 := by
  cases u with
  | zero => show 0 < 24; omega
  | succ u => exact jpl_24 h _ _
theorem jbit_lt {g n : Nat} (h : g < n) : 1 <<< g < 2 ^ n := by
  rw [Nat.one_shiftLeft]
  exact Nat.pow_lt_pow_right (by omega) h
theorem jmoved_lt {od : Nat} {mf af : Nat → Nat} (h : jtab od mf af) (set g : Nat) : ∀ e, jmoved od mf set g e < 2 ^ 24
  | 0 => by show 0 < _; decide
  | e + 1 => by
    have ih := jmoved_lt h set g e
    unfold jmoved
    split
    · exact Nat.or_lt_two_pow ih (jbit_lt (jpl_24 h e g))
    · exact ih
theorem jwo_lt {od : Nat} {af : Nat → Nat} (set : Nat) : ∀ g, g ≤ 24 → jwo od af set g < 2 ^ 24
  | 0, _ => by show 0 < _; decide
  | g + 1, hg => by
    have ih := jwo_lt (od := od) (af := af) set g (by omega)
    unfold jwo
    split
    · exact Nat.or_lt_two_pow ih (jbit_lt (by omega))
    · exact ih
theorem junit_f {e u d : Nat} (h : 2 ≤ d) (hd : d ≤ u) (h1 : u % d = 0) (h2 : e % d = 0) : junit e u = false := by
  have : ¬ junit e u = true := by
    intro q
    have := List.all_eq_true.mp q d (List.mem_range.mpr (by omega))
    simp only [Bool.or_eq_true, decide_eq_true_eq, Bool.not_eq_true', Bool.and_eq_false_iff, decide_eq_false_iff_not] at this
    omega
  cases hh : junit e u with
  | false => rfl
  | true => exact absurd hh this
theorem junit_t {e u : Nat} (h : ∀ d, d < u + 1 → 2 ≤ d → ¬ (u % d = 0 ∧ e % d = 0)) : junit e u = true := by
  refine List.all_eq_true.mpr fun d hd => ?_
  have := h d (List.mem_range.mp hd)
  simp only [Bool.or_eq_true, decide_eq_true_eq, Bool.not_eq_true', Bool.and_eq_false_iff, decide_eq_false_iff_not]
  by_cases h2 : d < 2
  · exact Or.inl h2
  · right
    have := this (by omega)
    by_cases h3 : u % d = 0
    · exact Or.inr (fun h4 => this ⟨h3, h4⟩)
    · exact Or.inl h3
theorem j_shl1 {k : Nat} (hk : k < 31) : nI 1 <<< (nI k &&& 31) = nI (1 <<< k) := j_shl (by omega) (by have := Nat.pow_lt_pow_right (a := 2) (by omega) hk; omega)
theorem jmoved_0 {od : Nat} {mf : Nat → Nat} {g : Nat} : ∀ e, jmoved od mf 0 g e = 0
  | 0 => rfl
  | e + 1 => by unfold jmoved; simp [jmoved_0 e]
theorem jpl_t {od : Nat} {mf : Nat → Nat} {a b : Nat} (h1 : decide (a < od) = true) (h2 : decide (b < od) = true) : some (Value.int (nI (jpl od mf a b))) = some (.int (nI (mf (a * 24 + b)))) := by
  rw [jpl, if_pos ⟨of_decide_eq_true h1, of_decide_eq_true h2⟩]
theorem jpl_f1 {od : Nat} {mf : Nat → Nat} {a b : Nat} (h1 : decide (a < od) = false) : some (Value.int (nI (jpl od mf a b))) = some (.int (nI 0)) := by
  rw [jpl, if_neg (fun z => of_decide_eq_false h1 z.1)]
theorem jpl_f2 {od : Nat} {mf : Nat → Nat} {a b : Nat} (h1 : decide (b < od) = false) : some (Value.int (nI (jpl od mf a b))) = some (.int (nI 0)) := by
  rw [jpl, if_neg (fun z => of_decide_eq_false h1 z.2)]
theorem jop_t {od : Nat} {af : Nat → Nat} {a : Nat} (h1 : decide (a < od) = true) : some (Value.int (nI (jop od af a))) = some (.int (nI (af a))) := by
  rw [jop, if_pos (of_decide_eq_true h1)]
theorem jop_f {od : Nat} {af : Nat → Nat} {a : Nat} (h1 : decide (a < od) = false) : some (Value.int (nI (jop od af a))) = some (.int (nI 0)) := by
  rw [jop, if_neg (of_decide_eq_false h1)]
/-- k - 1, also below nought -/
def jm1 : Nat → Int32
  | 0 => -1
  | k + 1 => nI k
theorem jm1_0 : jm1 0 = -1 := rfl
theorem jm1_s (k : Nat) : jm1 (k + 1) = nI k := rfl
theorem j_decm : ∀ k : Nat, nI k + Int32.ofInt (-1) = jm1 k
  | 0 => by decide +kernel
  | k + 1 => pk_m1 k
theorem j_subm : ∀ k : Nat, nI k - nI 1 = jm1 k
  | 0 => by decide +kernel
  | k + 1 => nI_pred k
