/-! rows -/
def jat (f : Nat → Nat) (n : Nat) (i : Int32) : Int32 := if jhas i n then nI (f i.toNatClampNeg) else -1
theorem jat_t {f : Nat → Nat} {n : Nat} {i : Int32} (h : jhas i n = true) : some (Value.int (jat f n i)) = some (.int (nI (f i.toNatClampNeg))) := by rw [jat, if_pos h]
theorem jat_f {f : Nat → Nat} {n : Nat} {i : Int32} (h : jhas i n = false) : some (Value.int (jat f n i)) = some (.int (-1)) := by rw [jat, if_neg (by rw [h]; decide)]
theorem jhas_in {n N : Nat} {i : Int32} (h : jhas i n = true) (hN : n ≤ N) (h2 : N < 2 ^ 31) : vp_in i N := by
  obtain ⟨k, hk, rfl⟩ := jhas_t h
  exact vp_in_nI (by omega) h2
theorem j_pow {k : Nat} (hk : k < 31) : nI 1 <<< (nI k &&& 31) = nI (2 ^ k) := by rw [j_shl1 hk, Nat.one_shiftLeft]
theorem j_max0 {b : Nat} (h : b < 2 ^ 31) : (if nI b < nI 0 then nI 0 else nI b) = nI b := if_neg (fun q => by rw [nI_0] at q; exact nI_pos h q)
theorem jrem_step {f h : Nat → Nat} {k i : Nat} (hk : k ≤ i) (hh : ∀ j, h j = if k ≤ j ∧ j < i then f (j + 1) else f j) : ∀ j, va_up h i (h (i + 1)) j = if k ≤ j ∧ j < i + 1 then f (j + 1) else f j := by
  intro j
  by_cases z : j = i
  · subst z
    rw [up_at, hh, if_neg (by omega), if_pos (by omega)]
  · rw [up_ne z, hh]
    by_cases q : k ≤ j ∧ j < i
    · rw [if_pos q, if_pos (by omega)]
    · rw [if_neg q, if_neg (by omega)]
theorem jmu_step {f h F : Nat → Nat} {i : Nat} (hh : ∀ j, h j = if j < i then F j else f j) : ∀ j, va_up h i (F i) j = if j < i + 1 then F j else f j := by
  intro j
  by_cases z : j = i
  · subst z
    rw [up_at, if_pos (by omega)]
  · rw [up_ne z, hh]
    by_cases q : j < i
    · rw [if_pos q, if_pos (by omega)]
    · rw [if_neg q, if_neg (by omega)]
/-- insertion of g from place p down -/
def jins (g : Nat) : Nat → (Nat → Nat) → (Nat → Nat)
  | 0, h => va_up h 0 g
  | p + 1, h => if g < h p then jins g p (va_up h (p + 1) (h p)) else va_up h (p + 1) g
/-- the places up to e in order -/
def jsrt (f : Nat → Nat) : Nat → (Nat → Nat)
  | 0 => f
  | e + 1 => jins (jsrt f e (e + 1)) (e + 1) (jsrt f e)
/-- from place i on, d places: is f less than g? -/
def jlt (f g : Nat → Nat) : Nat → Nat → Bool
  | 0, _ => false
  | d + 1, i => if f i = g i then jlt f g d (i + 1) else decide (f i < g i)
theorem jlt_e {f g : Nat → Nat} {n i : Nat} (h : i < n) (he : f i = g i) : jlt f g (n - i) i = jlt f g (n - (i + 1)) (i + 1) := by
  rw [show n - i = (n - (i + 1)) + 1 by omega, jlt, if_pos he]
theorem jlt_n {f g : Nat → Nat} {n i : Nat} (h : i < n) (he : ¬ f i = g i) : jlt f g (n - i) i = decide (f i < g i) := by
  rw [show n - i = (n - (i + 1)) + 1 by omega, jlt, if_neg he]
theorem jlt_0 {f g : Nat → Nat} {n i : Nat} (h : n ≤ i) : jlt f g (n - i) i = false := by
  rw [show n - i = 0 by omega, jlt]
/-- the sum of a set of the first places -/
def jsum (od : Nat) (mf f : Nat → Nat) (s : Nat) : Nat → Nat
  | 0 => 0
  | i + 1 => if s.testBit i then jpl od mf (jsum od mf f s i) (f i) else jsum od mf f s i
theorem jsum_24 {od : Nat} {mf af : Nat → Nat} (h : jtab od mf af) (f : Nat → Nat) (s : Nat) : ∀ i, jsum od mf f s i < 24
  | 0 => by show 0 < 24; decide
  | i + 1 => by
    unfold jsum
    split
    · exact jpl_24 h _ _
    · exact jsum_24 h f s i
/-- how long the shortest run from b on is that makes g -/
def jrn (od : Nat) (mf f : Nat → Nat) (g b : Nat) : Nat → Nat → Nat → Int32
  | 0, _, _ => -1
  | d + 1, p, w => if jpl od mf w (f p) = g then nI (p - b + 1) else jrn od mf f g b d (p + 1) (jpl od mf w (f p))
theorem jrn_n {od : Nat} {mf f : Nat → Nat} {g b n p w : Nat} (h : p < n) (he : ¬ jpl od mf w (f p) = g) : jrn od mf f g b (n - p) p w = jrn od mf f g b (n - (p + 1)) (p + 1) (jpl od mf w (f p)) := by
  rw [show n - p = (n - (p + 1)) + 1 by omega, jrn, if_neg he]
theorem jrn_e {od : Nat} {mf f : Nat → Nat} {g b n p w : Nat} (h : p < n) (he : jpl od mf w (f p) = g) : jrn od mf f g b (n - p) p w = nI (p - b + 1) := by
  rw [show n - p = (n - (p + 1)) + 1 by omega, jrn, if_pos he]
theorem jrn_0 {od : Nat} {mf f : Nat → Nat} {g b n p w : Nat} (h : n ≤ p) : jrn od mf f g b (n - p) p w = -1 := by
  rw [show n - p = 0 by omega, jrn]
theorem jins_24 {n g : Nat} (hg : g < 24) : ∀ (p : Nat) (h : Nat → Nat), p < n → (∀ j, j < n → h j < 24) → ∀ j, j < n → jins g p h j < 24
  | 0, h, hp, hh, j, hj => by
    unfold jins va_up
    split
    · exact hg
    · exact hh j hj
  | p + 1, h, hp, hh, j, hj => by
    unfold jins
    split
    · refine jins_24 hg p _ (by omega) (fun k hk => ?_) j hj
      unfold va_up
      split
      · exact hh p (by omega)
      · exact hh k hk
    · unfold va_up
      split
      · exact hg
      · exact hh j hj
theorem jsrt_24 {f : Nat → Nat} {n : Nat} (hf : ∀ j, j < n → f j < 24) : ∀ i, i < n → ∀ j, j < n → jsrt f i j < 24
  | 0, _ => hf
  | i + 1, hi => jins_24 (jsrt_24 hf i (by omega) (i + 1) hi) (i + 1) _ hi (jsrt_24 hf i (by omega))
