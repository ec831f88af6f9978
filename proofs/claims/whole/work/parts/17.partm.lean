/-! a row parted -/
def jia (m0 m1 : Nat → Nat) (s : Nat) : Bool := decide (m0 s = 0) && decide (m1 s = 1)
theorem jia_1 {m0 m1 : Nat → Nat} {s : Nat} (h : ¬ m0 s = 0) : jia m0 m1 s = false := by simp [jia, h]
theorem jia_2 {m0 m1 : Nat → Nat} {s : Nat} (h : ¬ m1 s = 1) : jia m0 m1 s = false := by simp [jia, h]
theorem jia_3 {m0 m1 : Nat → Nat} {s : Nat} (h : m0 s = 0) (h2 : m1 s = 1) : jia m0 m1 s = true := by simp [jia, h, h2]
theorem j_neg {l : Nat} (h : l ≤ 2 ^ 32) : -(nI l) = nI (2 ^ 32 - l) := by
  apply Int32.toBitVec_inj.mp
  rw [Int32.toBitVec_neg, j_bv, j_bv]
  apply BitVec.eq_of_toNat_eq
  simp [BitVec.toNat_neg]
  omega
/-- the next of the sets within w -/
def jnx (r w : Nat) : Nat := (2 ^ 32 + r - w) &&& w
theorem j_nx {r w : Nat} (hr : r < 4096) (hw : w < 4096) : (nI r - nI w) &&& nI w = nI (jnx r w) := by
  have : nI r - nI w = nI (2 ^ 32 + r - w) := by
    apply Int32.toBitVec_inj.mp
    rw [Int32.toBitVec_sub, j_bv, j_bv, j_bv]
    apply BitVec.eq_of_toNat_eq
    simp [BitVec.toNat_sub]
    omega
  rw [this, j_and]; rfl
theorem jnx_lt {r w : Nat} (hw : w < 4096) : jnx r w < 4096 := Nat.lt_of_le_of_lt Nat.and_le_right hw
/-- its least bit -/
def jlow (l : Nat) : Nat := l &&& (2 ^ 32 - l)
theorem j_low {l : Nat} (h : l ≤ 2 ^ 32) : nI l &&& -(nI l) = nI (jlow l) := by rw [j_neg h, j_and]; rfl
theorem jlow_lt {l : Nat} (h : l < 4096) : jlow l < 4096 := Nat.lt_of_le_of_lt Nat.and_le_left h
theorem jo_lt {a b : Nat} (ha : a < 4096) (hb : b < 4096) : a ||| b < 4096 := Nat.or_lt_two_pow (n := 12) ha hb
theorem jxx_lt {a b : Nat} (ha : a < 4096) (hb : b < 4096) : a ^^^ b < 4096 := Nat.xor_lt_two_pow (n := 12) ha hb
theorem jot_lt {l : Nat} (h : l < 4096) : l ^^^ jlow l < 4096 := jxx_lt h (jlow_lt h)
theorem jx2_lt {s r b : Nat} (hs : s < 4096) (hr : r < 4096) (hb : b < 4096) : s ^^^ (r ||| b) < 4096 := jxx_lt hs (jo_lt hr hb)
theorem jx_lt {s i : Nat} (hs : s < 4096) (hi : i < 12) : s ^^^ 2 ^ i < 4096 := jxx_lt hs (by have := Nat.pow_lt_pow_right (a := 2) (by omega) hi; omega)
theorem j_mx {a b : Nat} (ha : a < 2 ^ 31) (hb : b < 2 ^ 31) : (if nI a < nI b then nI b else nI a) = nI (max a b) := by
  by_cases h : a < b
  · rw [if_pos ((nI_ltI ha hb).mpr h), Nat.max_eq_right (by omega)]
  · rw [if_neg (fun q => h ((nI_ltI ha hb).mp q)), Nat.max_eq_left (by omega)]
theorem j_mn {a b : Nat} (ha : a < 2 ^ 31) (hb : b < 2 ^ 31) : (if nI b < nI a then nI b else nI a) = nI (min a b) := by
  by_cases h : b < a
  · rw [if_pos ((nI_ltI hb ha).mpr h), Nat.min_eq_right (by omega)]
  · rw [if_neg (fun q => h ((nI_ltI hb ha).mp q)), Nat.min_eq_left (by omega)]
/-- the most of the sets that want one place of s, of the first k places -/
def jmwo (m1 : Nat → Nat) (s : Nat) : Nat → Nat
  | 0 => 0
  | k + 1 => if s.testBit k then max (jmwo m1 s k) (m1 (s ^^^ 2 ^ k)) else jmwo m1 s k
theorem jmwo_lt {m1 : Nat → Nat} (h : ∀ t, m1 t < 128) (s : Nat) : ∀ k, jmwo m1 s k < 128
  | 0 => by show 0 < _; decide
  | k + 1 => by
    have h1 := jmwo_lt h s k
    have h2 := h (s ^^^ 2 ^ k)
    unfold jmwo
    split
    · omega
    · exact h1
noncomputable def jhle (f : Nat → Nat) (s n : Nat) : Bool := @decide (∀ p, p < n → s.testBit p = true → ∀ o, o < n → p < o → s.testBit o = false → f o ≠ f p) (Classical.propDecidable _)
theorem jhle_t {f : Nat → Nat} {s n i : Nat} (h : n ≤ i) (hh : ∀ p, p < i → s.testBit p = true → ∀ o, o < n → p < o → s.testBit o = false → f o ≠ f p) : jhle f s n = true := @decide_eq_true _ (Classical.propDecidable _) (fun p hp => hh p (by omega))
theorem jhle_f {f : Nat → Nat} {s n i o : Nat} (hi : i < n) (hio : i < o) (ho : o < n) (h1 : s.testBit i = true) (h2 : s.testBit o = false) (h3 : f o = f i) : jhle f s n = false := @decide_eq_false _ (Classical.propDecidable _) (fun q => q i hi h1 o ho hio h2 h3)
/-- one step: the set r, with the least place, taken away -/
def jta1 (m0 m1 : Nat → Nat) (s r : Nat) (T : Nat → Nat) : Nat → Nat := if jia m0 m1 (r ||| jlow s) = true ∧ s ^^^ (r ||| jlow s) < s then va_up T (s ^^^ (r ||| jlow s)) (min (T (s ^^^ (r ||| jlow s))) (T s + 1)) else T
def jta (m0 m1 : Nat → Nat) (s : Nat) : Nat → Nat → (Nat → Nat) → (Nat → Nat)
  | 0, _, T => T
  | d + 1, r, T => if r = s ^^^ jlow s then jta1 m0 m1 s r T else jta m0 m1 s d (jnx r (s ^^^ jlow s)) (jta1 m0 m1 s r T)
theorem jta_1 {m0 m1 T : Nat → Nat} {s r : Nat} (h1 : jia m0 m1 (r ||| jlow s) = true) (h2 : s ^^^ (r ||| jlow s) < s) : jta1 m0 m1 s r T = va_up T (s ^^^ (r ||| jlow s)) (min (T (s ^^^ (r ||| jlow s))) (T s + 1)) := if_pos ⟨h1, h2⟩
theorem jta_2 {m0 m1 T : Nat → Nat} {s r : Nat} (h1 : jia m0 m1 (r ||| jlow s) = false) : jta1 m0 m1 s r T = T := if_neg (fun q => by rw [h1] at q; exact absurd q.1 (by decide))
theorem jta_3 {m0 m1 T : Nat → Nat} {s r : Nat} (h2 : s ≤ s ^^^ (r ||| jlow s)) : jta1 m0 m1 s r T = T := if_neg (fun q => by omega)
theorem jta_n {m0 m1 T T2 : Nat → Nat} {s r i : Nat} (hi : i < 4096) (hst : jta1 m0 m1 s r T = T2) (h : ¬ r = s ^^^ jlow s) : jta m0 m1 s (4096 - i) r T = jta m0 m1 s (4096 - (i + 1)) (jnx r (s ^^^ jlow s)) T2 := by
  rw [show 4096 - i = (4096 - (i + 1)) + 1 by omega, jta, if_neg h, hst]
theorem jta_e {m0 m1 T T2 : Nat → Nat} {s r i : Nat} (hi : i < 4096) (hst : jta1 m0 m1 s r T = T2) (h : r = s ^^^ jlow s) : jta m0 m1 s (4096 - i) r T = T2 := by
  rw [show 4096 - i = (4096 - (i + 1)) + 1 by omega, jta, if_pos h, hst]
