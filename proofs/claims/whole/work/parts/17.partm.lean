/-! a row parted -/
def jia (m0 m1 : Nat → Nat) (s : Nat) : Bool := decide (m0 s = 0) && decide (m1 s = 1)
theorem jia_1 {m0 m1 : Nat → Nat} {s : Nat} (h : ¬ m0 s = 0) : jia m0 m1 s = false := by simp [jia, h]
theorem jia_2 {m0 m1 : Nat → Nat} {s : Nat} (h : ¬ m1 s = 1) : jia m0 m1 s = false := by simp [jia, h]
theorem jia_3 {m0 m1 : Nat → Nat} {s : Nat} (h : m0 s = 0) (h2 : m1 s = 1) : jia m0 m1 s = true := by simp [jia, h, h2]
theorem j_neg {l : Nat} (h : l ≤ 2 ^ 32) : -(nI l) = nI (2 ^ 32 - l) := by
  apply Int32.toBitVec_inj.mp
  rw [Int32.toBitVec_neg, j_bv, j_bv]
  apply BitVec.eq_of_toNat_eq
  simp [BitVec.toNat_neg]
  omega
/-- the next of the sets within w -/
def jnx (r w : Nat) : Nat := (2 ^ 32 + r - w) &&& w
theorem j_nx {r w : Nat} (hr : r < 4096) (hw : w < 4096) : (nI r - nI w) &&& nI w = nI (jnx r w) := by
  have : nI r - nI w = nI (2 ^ 32 + r - w) := by
    apply Int32.toBitVec_inj.mp
    rw [Int32.toBitVec_sub, j_bv, j_bv, j_bv]
    apply BitVec.eq_of_toNat_eq
    simp [BitVec.toNat_sub]
    omega
  rw [this, j_and]; rfl
theorem jnx_lt {r w : Nat} (hw : w < 4096) : jnx r w < 4096 := Nat.lt_of_le_of_lt Nat.and_le_right hw
/-- its least bit -/
def jlow (l : Nat) : Nat := l &&& (2 ^ 32 - l)
theorem j_low {l : Nat} (h : l ≤ 2 ^ 32) : nI l &&& -(nI l) = nI (jlow l) := by rw [j_neg h, j_and]; rfl
theorem jlow_lt {l : Nat} (h : l < 4096) : jlow l < 4096 := Nat.lt_of_le_of_lt Nat.and_le_left h
theorem jo_lt {a b : Nat} (ha : a < 4096) (hb : b < 4096) : a ||| b < 4096 := Nat.or_lt_two_pow (n := 12) ha hb
theorem jxx_lt {a b : Nat} (ha : a < 4096) (hb : b < 4096) : a ^^^ b < 4096 := Nat.xor_lt_two_pow (n := 12) ha hb
theorem jot_lt {l : Nat} (h : l < 4096) : l ^^^ jlow l < 4096 := jxx_lt h (jlow_lt h)
theorem jx2_lt {s r b : Nat} (hs : s < 4096) (hr : r < 4096) (hb : b < 4096) : s ^^^ (r ||| b) < 4096 := jxx_lt hs (jo_lt hr hb)
theorem jx_lt {s i : Nat} (hs : s < 4096) (hi : i < 12) : s ^^^ 2 ^ i < 4096 := jxx_lt hs (by have := Nat.pow_lt_pow_right (a := 2) (by omega) hi; omega)
theorem j_mx {a b : Nat} (ha : a < 2 ^ 31) (hb : b < 2 ^ 31) : (if nI a < nI b then nI b else nI a) = nI (max a b) := by
  by_cases h : a < b
  · rw [if_pos ((nI_ltI ha hb).mpr h), Nat.max_eq_right (by omega)]
  · rw [if_neg (fun q => h ((nI_ltI ha hb).mp q)), Nat.max_eq_left (by omega)]
theorem j_mn {a b : Nat} (ha : a < 2 ^ 31) (hb : b < 2 ^ 31) : (if nI b < nI a then nI b else nI a) = nI (min a b) := by
  by_cases h : b < a
  · rw [if_pos ((nI_ltI hb ha).mpr h), Nat.min_eq_right (by omega)]
  · rw [if_neg (fun q => h ((nI_ltI hb ha).mp q)), Nat.min_eq_left (by omega)]
/-- the most of the sets that want one place of s, of the first k places -/
def jmwo (m1 : Nat → Nat) (s : Nat) : Nat → Nat
  | 0 => 0
  | k + 1 => if s.testBit k then max (jmwo m1 s k) (m1 (s ^^^ 2 ^ k)) else jmwo m1 s k
theorem jmwo_lt {m1 : Nat → Nat} (h : ∀ t, m1 t < 128) (s : Nat) : ∀ k, jmwo m1 s k < 128
  | 0 => by show 0 < _; decide
  | k + 1 => by
    have h1 := jmwo_lt h s k
    have h2 := h (s ^^^ 2 ^ k)
    unfold jmwo
    split
    · omega
    · exact h1
noncomputable def jhle (f : Nat → Nat) (s n : Nat) : Bool := @decide (∀ p, p < n → s.testBit p = true → ∀ o, o < n → p < o → s.testBit o = false → f o ≠ f p) (Classical.propDecidable _)
theorem jhle_t {f : Nat → Nat} {s n i : Nat} (h : n ≤ i) (hh : ∀ p, p < i → s.testBit p = true → ∀ o, o < n → p < o → s.testBit o = false → f o ≠ f p) : jhle f s n = true := @decide_eq_true _ (Classical.propDecidable _) (fun p hp => hh p (by omega))
theorem jhle_f {f : Nat → Nat} {s n i o : Nat} (hi : i < n) (hio : i < o) (ho : o < n) (h1 : s.testBit i = true) (h2 : s.testBit o = false) (h3 : f o = f i) : jhle f s n = false := @decide_eq_false _ (Classical.propDecidable _) (fun q => q i hi h1 o ho hio h2 h3)
/-- one step: the set r, with the least place, taken away -/
def jta1 (m0 m1 : Nat → Nat) (s r : Nat) (T : Nat → Nat) : Nat → Nat := if jia m0 m1 (r ||| jlow s) = true ∧ s ^^^ (r ||| jlow s) < s then va_up T (s ^^^ (r ||| jlow s)) (min (T (s ^^^ (r ||| jlow s))) (T s + 1)) else T
def jta (m0 m1 : Nat → Nat) (s : Nat) : Nat → Nat → (Nat → Nat) → (Nat → Nat)
  | 0, _, T => T
  | d + 1, r, T => if r = s ^^^ jlow s then jta1 m0 m1 s r T else jta m0 m1 s d (jnx r (s ^^^ jlow s)) (jta1 m0 m1 s r T)
theorem jta_1 {m0 m1 T : Nat → Nat} {s r : Nat} (h1 : jia m0 m1 (r ||| jlow s) = true) (h2 : s ^^^ (r ||| jlow s) < s) : jta1 m0 m1 s r T = va_up T (s ^^^ (r ||| jlow s)) (min (T (s ^^^ (r ||| jlow s))) (T s + 1)) := if_pos ⟨h1, h2⟩
theorem jta_2 {m0 m1 T : Nat → Nat} {s r : Nat} (h1 : jia m0 m1 (r ||| jlow s) = false) : jta1 m0 m1 s r T = T := if_neg (fun q => by rw [h1] at q; exact absurd q.1 (by decide))
theorem jta_3 {m0 m1 T : Nat → Nat} {s r : Nat} (h2 : s ≤ s ^^^ (r ||| jlow s)) : jta1 m0 m1 s r T = T := if_neg (fun q => by omega)
theorem jta_n {m0 m1 T T2 : Nat → Nat} {s r i : Nat} (hi : i < 4096) (hst : jta1 m0 m1 s r T = T2) (h : ¬ r = s ^^^ jlow s) : jta m0 m1 s (4096 - i) r T = jta m0 m1 s (4096 - (i + 1)) (jnx r (s ^^^ jlow s)) T2 := by
  rw [show 4096 - i = (4096 - (i + 1)) + 1 by omega, jta, if_neg h, hst]
theorem jta_e {m0 m1 T T2 : Nat → Nat} {s r i : Nat} (hi : i < 4096) (hst : jta1 m0 m1 s r T = T2) (h : r = s ^^^ jlow s) : jta m0 m1 s (4096 - i) r T = T2 := by
  rw [show 4096 - i = (4096 - (i + 1)) + 1 by omega, jta, if_pos h, hst]
theorem jta_lt {m0 m1 : Nat → Nat} {s : Nat} {T : Nat → Nat} (hT : ∀ t, T t < 128) : ∀ (d r : Nat), ∀ t, jta m0 m1 s d r T t < 128
  | 0, _ => hT
  | d + 1, r => by
    have h1 : ∀ t, jta1 m0 m1 s r T t < 128 := by
      intro t
      unfold jta1
      split
      · unfold va_up
        split
        · have := hT (s ^^^ (r ||| jlow s)); omega
        · exact hT t
      · exact hT t
    intro t
    unfold jta
    split
    · exact h1 t
    · exact jta_lt h1 d _ t
noncomputable def jfl (m0 m1 f : Nat → Nat) (n : Nat) : Nat → (Nat → Nat) → (Nat → Nat)
  | 0, T => T
  | l + 1, T => jfl m0 m1 f n l (if ¬ T (l + 1) = 127 ∧ jhle f (l + 1) n = true then jta m0 m1 (l + 1) 4096 0 T else T)
theorem jxor_1 {m : Nat} (h : m % 2 = 1) : m ^^^ 1 = m - 1 := by
  have h1 : (m ^^^ 1) / 2 = m / 2 := by rw [Nat.xor_div_two]; simp
  have h2 : ¬ (m ^^^ 1) % 2 = 1 := by rw [Nat.xor_mod_two_eq_one]; simp [h]
  omega
theorem jxor_sub {s k : Nat} (h : s.testBit k = true) : (s ^^^ 2 ^ k) + 2 ^ k = s := by
  have hp := Nat.two_pow_pos k
  have h1 : (s ^^^ 2 ^ k) / 2 ^ k = (s / 2 ^ k) ^^^ 1 := by rw [Nat.xor_div_two_pow, Nat.div_self hp]
  have h2 : (s ^^^ 2 ^ k) % 2 ^ k = s % 2 ^ k := by rw [Nat.xor_mod_two_pow, Nat.mod_self, Nat.xor_zero]
  have h3 : (s / 2 ^ k) % 2 = 1 := by
    rw [Nat.testBit_eq_decide_div_mod_eq] at h
    exact of_decide_eq_true h
  rw [jxor_1 h3] at h1
  have e1 := Nat.div_add_mod (s ^^^ 2 ^ k) (2 ^ k)
  have e2 := Nat.div_add_mod s (2 ^ k)
  rw [h1, h2] at e1
  generalize s ^^^ 2 ^ k = X at e1 ⊢
  generalize s % 2 ^ k = Y at e1 e2
  generalize s / 2 ^ k = D at e1 e2 h3
  generalize 2 ^ k = Z at e1 e2 ⊢
  obtain ⟨y, rfl⟩ : ∃ y, D = y + 1 := ⟨D - 1, by omega⟩
  rw [Nat.add_sub_cancel] at e1
  rw [Nat.mul_add, Nat.mul_one] at e2
  omega
theorem jxor_lt {s k : Nat} (h : s.testBit k = true) : s ^^^ 2 ^ k < s := by
  have h1 := jxor_sub h
  have h2 := Nat.two_pow_pos k
  generalize s ^^^ 2 ^ k = X at h1 ⊢
  generalize 2 ^ k = Z at h1 h2
  omega
def jMost (m0 m1 : Nat → Nat) (n b : Nat) : Prop := ∀ s, 0 < s → s < b → m1 s = if m0 s = 0 then m1 (s - 2 ^ Nat.log2 s) + 1 else jmwo m1 s n
theorem jmwo_congr {m m' : Nat → Nat} {s : Nat} (h : ∀ t, t < s → m t = m' t) : ∀ k, jmwo m s k = jmwo m' s k
  | 0 => rfl
  | k + 1 => by
    unfold jmwo
    rw [jmwo_congr h k]
    split
    · rename_i q; rw [h _ (jxor_lt q)]
    · rfl
theorem jmwo_le {m : Nat → Nat} {n c : Nat} (h : ∀ t, t < n → m t ≤ c) : ∀ k, jmwo m n k ≤ c
  | 0 => Nat.zero_le _
  | k + 1 => by
    have := jmwo_le h k
    unfold jmwo
    split
    · rename_i q
      have := h _ (jxor_lt q)
      omega
    · exact this
/-- the tables made, most are right for the sets below b, of the first places -/
def jFS (od : Nat) (mf rf : Nat → Nat) (rn : Nat) (m0 m1 : Nat → Nat) (b c : Nat) : Prop := (m0 0 = 0 ∧ m1 0 = 0) ∧ (∀ s, s < b → m0 s = jsum od mf rf s rn) ∧ jMost m0 m1 rn b ∧ (∀ s, s < b → m1 s ≤ c) ∧ ∀ s, m0 s < 128 ∧ m1 s < 128
theorem jsum_lo {od : Nat} {mf f : Nat → Nat} {s t : Nat} : ∀ k, (∀ i, i < k → s.testBit i = t.testBit i) → jsum od mf f s k = jsum od mf f t k
  | 0, _ => rfl
  | k + 1, h => by
    unfold jsum
    rw [jsum_lo k (fun i hi => h i (by omega)), h k (by omega)]
theorem jsum_hi {od : Nat} {mf f : Nat → Nat} {s p : Nat} (hs : s < 2 ^ p) : ∀ d, jsum od mf f s (p + d) = jsum od mf f s p
  | 0 => rfl
  | d + 1 => by
    show jsum od mf f s ((p + d) + 1) = _
    unfold jsum
    rw [Nat.testBit_lt_two_pow (Nat.lt_of_lt_of_le hs (Nat.pow_le_pow_right (by omega) (by omega))), if_neg (by decide)]
    rw [jsum_hi hs d]
    cases p <;> rfl
theorem jtop {s p : Nat} (h1 : 2 ^ p ≤ s) (h2 : s < 2 * 2 ^ p) : s.testBit p = true ∧ ∀ i, i < p → s.testBit i = (s - 2 ^ p).testBit i := by
  obtain ⟨t, rfl⟩ : ∃ t, s = 2 ^ p + t := ⟨s - 2 ^ p, by omega⟩
  have ht : t < 2 ^ p := by omega
  refine ⟨by rw [Nat.testBit_two_pow_add_eq, Nat.testBit_lt_two_pow ht]; rfl, fun i hi => ?_⟩
  rw [Nat.testBit_two_pow_add_gt hi, show 2 ^ p + t - 2 ^ p = t by omega]
theorem jsum_top {od : Nat} {mf f : Nat → Nat} {s p n : Nat} (hp : p < n) (h1 : 2 ^ p ≤ s) (h2 : s < 2 * 2 ^ p) : jsum od mf f s n = jpl od mf (jsum od mf f (s - 2 ^ p) n) (f p) := by
  obtain ⟨a, b⟩ := jtop h1 h2
  obtain ⟨d, rfl⟩ : ∃ d, n = (p + 1) + d := ⟨n - (p + 1), by omega⟩
  rw [jsum_hi (p := p + 1) (by rw [Nat.pow_succ]; omega), show p + 1 + d = p + (1 + d) by omega, jsum_hi (s := s - 2 ^ p) (p := p) (by omega), jsum, if_pos a, jsum_lo p b]
theorem jlog {s p : Nat} (h1 : 2 ^ p ≤ s) (h2 : s < 2 * 2 ^ p) : Nat.log2 s = p := by
  have hp := Nat.two_pow_pos p
  have := (Nat.log2_eq_iff (n := s) (k := p) (by omega)).mpr ⟨h1, by rw [Nat.pow_succ]; omega⟩
  exact this
section
variable {od : Nat} {mf af rf m0 m1 : Nat → Nat} {rn s p : Nat}
theorem jFS_0 {wh rn : Nat} {m0 m1 m2 : Nat → Nat} {od : Nat} {mf rf : Nat → Nat} {n : Nat} (hP : (m0 0 = 0 ∧ m1 0 = 0) ∧ ∀ s, m0 s < 128 ∧ m1 s < 128) : jFS od mf rf n m0 m1 (2 ^ 0) 0 := by
  refine ⟨hP.1, fun s hs => ?_, fun s h0 hs => ?_, fun s hs => ?_, hP.2⟩
  · obtain rfl : s = 0 := by omega
    rw [hP.1.1]
    have : ∀ k, jsum od mf rf 0 k = 0 := fun k => by
      induction k with
      | zero => rfl
      | succ k ih => unfold jsum; simp [ih]
    exact (this n).symm
  · omega
  · obtain rfl : s = 0 := by omega
    rw [hP.1.2]; exact Nat.le_refl _
theorem jMost_up {n v : Nat} (h : jMost m0 m1 n s) {w : Nat} (hv : 0 < s → v = if w = 0 then m1 (s - 2 ^ Nat.log2 s) + 1 else jmwo m1 s n) : jMost (va_up m0 s w) (va_up m1 s v) n (s + 1) := by
  intro t h0 ht
  have hpow : ∀ t, 0 < t → t - 2 ^ Nat.log2 t < t := fun t h => by have := Nat.two_pow_pos (Nat.log2 t); omega
  by_cases z : t = s
  · subst z
    rw [up_at, up_at, up_ne (by have := hpow t h0; omega), jmwo_congr (m := va_up m1 t v) (m' := m1) (fun k hk => up_ne (by omega)), hv h0]
  · rw [up_ne z, up_ne z, up_ne (by have := hpow t h0; omega), jmwo_congr (m := va_up m1 s v) (m' := m1) (fun k hk => up_ne (by omega))]
    exact h t h0 (by omega)
theorem jFS_up {v w c : Nat} (hs0 : 0 < s) (hi : jFS od mf rf rn m0 m1 s c) (hw : w = jsum od mf rf s rn) (hv : v = if w = 0 then m1 (s - 2 ^ Nat.log2 s) + 1 else jmwo m1 s rn) (hc : v ≤ c) (hw8 : w < 128) (hc8 : c < 128) : jFS od mf rf rn (va_up m0 s w) (va_up m1 s v) (s + 1) c := by
  refine ⟨⟨by rw [up_ne (by omega)]; exact hi.1.1, by rw [up_ne (by omega)]; exact hi.1.2⟩, lt_s (p := fun t => va_up m0 s w t = jsum od mf rf t rn) (fun t ht => by rw [up_ne (by omega)]; exact hi.2.1 t ht) (by rw [up_at]; exact hw), jMost_up hi.2.2.1 (fun _ => hv), lt_s (p := fun t => va_up m1 s v t ≤ c) (fun t ht => by rw [up_ne (by omega)]; exact hi.2.2.2.1 t ht) (by rw [up_at]; exact hc), fun t => ?_⟩
  have := hi.2.2.2.2 t
  unfold va_up
  constructor
  · split
    · exact hw8
    · exact this.1
  · split
    · omega
    · exact this.2
theorem jFS_1 (hp : p < rn) (h1 : 2 ^ p ≤ s) (h2 : s < 2 * 2 ^ p ∧ rn ≤ 12) (hi : jFS od mf rf rn m0 m1 s (p + 1)) (hz : jpl od mf (m0 (s - 2 ^ p)) (rf p) = 0) (h3 : m1 (s - 2 ^ p) + 1 ≤ p + 1) :
    jFS od mf rf rn (va_up m0 s (jpl od mf (m0 (s - 2 ^ p)) (rf p))) (va_up m1 s (m1 (s - 2 ^ p) + 1)) (s + 1) (p + 1) := by
  have hp0 := Nat.two_pow_pos p
  refine jFS_up (by omega) hi (by rw [jsum_top hp h1 h2.1, hi.2.1 _ (by omega)]) (by rw [if_pos hz, jlog h1 h2.1]) h3 (by omega) (by omega)
theorem jFS_2 (hp : p < rn) (h1 : 2 ^ p ≤ s) (h2 : s < 2 * 2 ^ p ∧ rn ≤ 12) (hT : jtab od mf af) (hi : jFS od mf rf rn m0 m1 s (p + 1)) (hz : ¬ jpl od mf (m0 (s - 2 ^ p)) (rf p) = 0) :
    jFS od mf rf rn (va_up m0 s (jpl od mf (m0 (s - 2 ^ p)) (rf p))) (va_up m1 s (jmwo m1 s rn)) (s + 1) (p + 1) := by
  have hp0 := Nat.two_pow_pos p
  have := jpl_24 hT (m0 (s - 2 ^ p)) (rf p)
  exact jFS_up (by omega) hi (by rw [jsum_top hp h1 h2.1, hi.2.1 _ (by omega)]) (by rw [if_neg hz]) (jmwo_le hi.2.2.2.1 rn) (by omega) (by omega)
end
/-- the least atom of the most -/
def jlm (m0 m1 : Nat → Nat) (s : Nat) : Nat → Nat → Nat
  | 0, _ => s
  | d + 1, r => if m0 (r ||| jlow s) = 0 ∧ m1 (s ^^^ (r ||| jlow s)) + 1 = m1 s then r ||| jlow s else if r = s ^^^ jlow s then s else jlm m0 m1 s d (jnx r (s ^^^ jlow s))
section
variable {m0 m1 : Nat → Nat} {s r i : Nat}
theorem jlm_f (hi : i < 4096) (h1 : m0 (r ||| jlow s) = 0) (h2 : m1 (s ^^^ (r ||| jlow s)) + 1 = m1 s) : jlm m0 m1 s (4096 - i) r = r ||| jlow s := by
  rw [show 4096 - i = (4096 - (i + 1)) + 1 by omega, jlm, if_pos ⟨h1, h2⟩]
theorem jlm_e (hi : i < 4096) (h1 : ¬ (m0 (r ||| jlow s) = 0 ∧ m1 (s ^^^ (r ||| jlow s)) + 1 = m1 s)) (h : r = s ^^^ jlow s) : jlm m0 m1 s (4096 - i) r = s := by
  rw [show 4096 - i = (4096 - (i + 1)) + 1 by omega, jlm, if_neg h1, if_pos h]
theorem jlm_n (hi : i < 4096) (h1 : ¬ (m0 (r ||| jlow s) = 0 ∧ m1 (s ^^^ (r ||| jlow s)) + 1 = m1 s)) (h : ¬ r = s ^^^ jlow s) : jlm m0 m1 s (4096 - i) r = jlm m0 m1 s (4096 - (i + 1)) (jnx r (s ^^^ jlow s)) := by
  rw [show 4096 - i = (4096 - (i + 1)) + 1 by omega, jlm, if_neg h1, if_neg h]
end
theorem jlm_lt {m0 m1 : Nat → Nat} {s : Nat} (hs : s < 4096) : ∀ d r, r < 4096 → jlm m0 m1 s d r < 4096
  | 0, _, _ => hs
  | d + 1, r, hr => by
    unfold jlm
    split
    · exact jo_lt hr (jlow_lt hs)
    · split
      · exact hs
      · exact jlm_lt hs d _ (jnx_lt (jot_lt hs))
def jam2 (m0 m1 : Nat → Nat) : Nat → Nat → Int32 → Int32
  | 0, _, v => v
  | d + 1, q, v => if 0 < q then jam2 m0 m1 d (q ^^^ jlm m0 m1 q 4096 0) (nI (jlm m0 m1 q 4096 0)) else v
def jam (m0 m1 : Nat → Nat) (wh i : Nat) : Int32 := jam2 m0 m1 (i + 1) wh (-1)
theorem jam_n {m0 m1 : Nat → Nat} {i k q : Nat} {v : Int32} (hk : k ≤ i) (hq : 0 < q) : jam2 m0 m1 (i + 1 - k) q v = jam2 m0 m1 (i + 1 - (k + 1)) (q ^^^ jlm m0 m1 q 4096 0) (nI (jlm m0 m1 q 4096 0)) := by
  rw [show i + 1 - k = (i + 1 - (k + 1)) + 1 by omega, jam2, if_pos hq]
theorem jam_0 {m0 m1 : Nat → Nat} {i k q : Nat} {v : Int32} (h : i < k) : jam2 m0 m1 (i + 1 - k) q v = v := by rw [show i + 1 - k = 0 by omega]; rfl
theorem jam_z {m0 m1 : Nat → Nat} {d : Nat} {v : Int32} : jam2 m0 m1 d 0 v = v := by cases d <;> rfl
/-- what always holds of the tables -/
def jPB (wh rn : Nat) (m0 m1 m2 : Nat → Nat) : Prop := wh < 4096 ∧ rn ≤ 12 ∧ (m0 0 = 0 ∧ m1 0 = 0) ∧ (∀ s, m0 s < 128 ∧ m1 s < 128) ∧ ∀ s, m2 s < 128
/-- the group's table by its code alone -/
def jmf (cd k : Nat) : Nat := gpl cd (k / 24) (k % 24)
theorem jpl_cd {cd pt od ex : Nat} {mf af : Nat → Nat} (h : gIs cd pt od ex mf af) : jpl od mf = jpl (god cd) (jmf cd) := by
  funext a b
  obtain ⟨h1, h2, h3, h4, h5, h6⟩ := h
  subst h3
  unfold jpl
  by_cases z : a < god cd ∧ b < god cd
  · have := (g_small cd h1).2.1
    rw [if_pos z, if_pos z, h5 a b z.1 z.2, jmf, show (a * 24 + b) / 24 = a by omega, show (a * 24 + b) % 24 = b by omega]
  · rw [if_neg z, if_neg z]
theorem jsum_pl {od od' : Nat} {mf mf' f : Nat → Nat} {s : Nat} (h : jpl od mf = jpl od' mf') : ∀ k, jsum od mf f s k = jsum od' mf' f s k
  | 0 => rfl
  | k + 1 => by unfold jsum; rw [jsum_pl h k, h]
/-- the tables speak of this group and row -/
def jPV (cd rn : Nat) (rf : Nat → Nat) (wh : Nat) (m0 m1 m2 : Nat → Nat) : Prop := cd ∈ jcodes ∧ wh = 2 ^ rn - 1 ∧ (∀ s, s < 2 ^ rn → m0 s = jsum (god cd) (jmf cd) rf s rn) ∧ jMost m0 m1 rn (2 ^ rn) ∧ ∃ T : Nat → Nat, m2 = jfl m0 m1 rf rn wh (va_up (fun t => if t < 4096 then 127 else T t) wh 0)
theorem jpn_lt {n : Nat} (h : n ≤ 12) : 2 ^ n - 1 < 4096 := by have : 2 ^ n ≤ 2 ^ 12 := Nat.pow_le_pow_right (by omega) h; omega
theorem jlt_same {f g : Nat → Nat} : ∀ (d i : Nat), jlt f g d i = false → jlt g f d i = false → ∀ k, i ≤ k → k < i + d → f k = g k
  | 0, i, _, _, k, h1, h2 => by omega
  | d + 1, i, h1, h2, k, h3, h4 => by
    unfold jlt at h1 h2
    by_cases he : f i = g i
    · rw [if_pos he] at h1
      rw [if_pos he.symm] at h2
      by_cases z : k = i
      · subst z; exact he
      · exact jlt_same d (i + 1) h1 h2 k (by omega) (by omega)
    · rw [if_neg he] at h1
      rw [if_neg (fun q => he q.symm)] at h2
      have h1 := of_decide_eq_false h1
      have h2 := of_decide_eq_false h2
      omega
theorem jsame_t {rn n : Nat} {rf f : Nat → Nat} (h : (decide (rn = n) && !jlt rf f rn 0 && !jlt f rf n 0) = true) : rn = n ∧ ∀ k, k < n → rf k = f k := by
  simp only [Bool.and_eq_true, decide_eq_true_eq, Bool.not_eq_true'] at h
  obtain ⟨⟨h1, h2⟩, h3⟩ := h
  subst h1
  exact ⟨rfl, fun k hk => jlt_same rn 0 h2 h3 k (Nat.zero_le _) (by omega)⟩
theorem jfl_lt {m0 m1 f : Nat → Nat} {n : Nat} : ∀ (l : Nat) (T : Nat → Nat), (∀ t, T t < 128) → ∀ t, jfl m0 m1 f n l T t < 128
  | 0, T, h => h
  | l + 1, T, h => by
    refine jfl_lt l _ (fun t => ?_)
    split
    · exact jta_lt h 4096 0 t
    · exact h t
theorem jPV_of {cd pt od ex : Nat} {mf af rf f m0 m1 m2 v0 v1 : Nat → Nat} {n wh rn : Nat} (hG : gIs cd pt od ex mf af) (hn : n ≤ 12) (hf : ∀ k, k < n → rf k = f k) (hP : jPB wh rn m0 m1 m2) (hi : jFS od mf rf n v0 v1 (2 ^ n) n) :
    (∀ k, k < n → rf k = f k) ∧ jPB (2 ^ n - 1) n v0 v1 (jfl v0 v1 rf n (2 ^ n - 1) (va_up (fun t => if t < 4096 then 127 else m2 t) (2 ^ n - 1) 0)) ∧ jPV cd n rf (2 ^ n - 1) v0 v1 (jfl v0 v1 rf n (2 ^ n - 1) (va_up (fun t => if t < 4096 then 127 else m2 t) (2 ^ n - 1) 0)) := by
  refine ⟨hf, ⟨jpn_lt hn, hn, hi.1, hi.2.2.2.2, jfl_lt _ _ (fun t => ?_)⟩, hG.1, rfl, fun s hs => ?_, hi.2.2.1, m2, rfl⟩
  · unfold va_up
    split
    · decide
    · show (if t < 4096 then 127 else m2 t) < 128
      split
      · decide
      · exact hP.2.2.2.2 t
  · rw [hi.2.1 s hs]
    exact jsum_pl (jpl_cd hG) n
theorem jT0_lt {m2 : Nat → Nat} {wh : Nat} (h : ∀ s, m2 s < 128) : ∀ t, va_up (fun t => if t < 4096 then 127 else m2 t) wh 0 t < 128 := by
  intro t
  unfold va_up
  split
  · decide
  · show (if t < 4096 then 127 else m2 t) < 128
    split
    · decide
    · exact h t
