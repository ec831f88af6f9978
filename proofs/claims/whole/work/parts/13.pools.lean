/-! k rows of n ints each, at ad 0 .. -/
def jrows (γ : jγ) (ad : Nat → Nat) (k n : Nat) (M : Nat → Nat → Nat) : va_W := (List.range k).map fun i => (ad i, .inl (γ.2 0, n, .inl (fun j => nI (M i j))))
def jm2 (M : Nat → Nat → Nat) (i k v : Nat) : Nat → Nat → Nat := fun x y => if x = i then va_up (M i) k v y else M x y
theorem jm2_at {M : Nat → Nat → Nat} {i k v : Nat} : jm2 M i k v i k = v := by simp [jm2, va_up]
theorem jm2_ne {M : Nat → Nat → Nat} {i k v x y : Nat} (h : x ≠ i ∨ y ≠ k) : jm2 M i k v x y = M x y := by
  unfold jm2 va_up
  by_cases z : x = i
  · subst z; simp; intro q; exact absurd q (by omega)
  · simp [z]
theorem jrows_get {γ : jγ} {ad : Nat → Nat} {k n : Nat} {M : Nat → Nat → Nat} {base : va_W} {b i : Nat} (hb : base.length = b) (hi : i < k) : (base ++ jrows γ ad k n M)[b + i]? = some (ad i, .inl (γ.2 0, n, .inl (fun j => nI (M i j)))) := by
  subst hb
  rw [List.getElem?_append_right (Nat.le_add_right _ _), Nat.add_sub_cancel_left]
  simp [jrows, hi]
theorem jrows_set {γ : jγ} {ad : Nat → Nat} {k n : Nat} {M : Nat → Nat → Nat} {base : va_W} {b i c v : Nat} (hb : base.length = b) (hi : i < k) :
    (base ++ jrows γ ad k n M).set (b + i) (ad i, .inl (γ.2 0, n, .inl (fun j => nI (va_up (M i) c v j)))) = base ++ jrows γ ad k n (jm2 M i c v) := by
  subst hb
  rw [List.set_append_right _ _ (Nat.le_add_right _ _), Nat.add_sub_cancel_left]
  congr 1
  apply List.ext_getElem?
  intro q
  rw [List.getElem?_set]
  by_cases z : i = q
  · subst z
    simp [jrows, hi, jm2]
  · rw [if_neg z]
    unfold jrows
    rw [List.getElem?_map, List.getElem?_map]
    by_cases hq : q < k
    · rw [List.getElem?_range hq]
      simp [jm2, Ne.symm z]
    · simp [hq]
/-! what k of the first i places make -/
def msub (od : Nat) (mf f : Nat → Nat) : Nat → Nat → Nat
  | 0, k => if k = 0 then 1 else 0
  | _ + 1, 0 => 1
  | i + 1, k + 1 => msub od mf f i (k + 1) ||| jmoved od mf (msub od mf f i k) (f i) od
theorem msub_lt {od : Nat} {mf af f : Nat → Nat} (h : jtab od mf af) : ∀ i k, msub od mf f i k < 2 ^ 24
  | 0, k => by unfold msub; split <;> decide
  | _ + 1, 0 => by show 1 < _; decide
  | i + 1, k + 1 => by
    unfold msub
    exact Nat.or_lt_two_pow (msub_lt h i (k + 1)) (jmoved_lt h _ _ _)
theorem msub_s {od : Nat} {mf f : Nat → Nat} {i k : Nat} (hi : 1 ≤ i) (hk : 1 ≤ k) : msub od mf f i k = msub od mf f (i - 1) k ||| jmoved od mf (msub od mf f (i - 1) (k - 1)) (f (i - 1)) od := by
  obtain ⟨a, rfl⟩ : ∃ a, i = a + 1 := ⟨i - 1, by omega⟩
  obtain ⟨b, rfl⟩ : ∃ b, k = b + 1 := ⟨k - 1, by omega⟩
  rfl
theorem msub_1 {od : Nat} {mf f : Nat → Nat} {i : Nat} : msub od mf f i 0 = 1 := by cases i <;> rfl
/-- all of g 1 .. g k together -/
def jors (g : Nat → Nat) : Nat → Nat
  | 0 => 0
  | k + 1 => jors g k ||| g (k + 1)
theorem jors_lt {g : Nat → Nat} {n : Nat} : ∀ k, (∀ j, 1 ≤ j → j ≤ k → g j < 2 ^ n) → jors g k < 2 ^ n
  | 0, _ => Nat.two_pow_pos n
  | k + 1, h => Nat.or_lt_two_pow (jors_lt k fun j h1 h2 => h j h1 (by omega)) (h (k + 1) (by omega) (by omega))
def jfw (M : Nat → Nat → Nat) (pn g : Nat) : Nat → Nat → Int32
  | 0, _ => -1
  | d + 1, k => if (M pn k).testBit g then nI k else jfw M pn g d (k + 1)
theorem jfw_0 {M : Nat → Nat → Nat} {pn g k : Nat} (h : pn < k) : jfw M pn g (pn + 1 - k) k = -1 := by rw [show pn + 1 - k = 0 by omega]; rfl
theorem jfw_t {M : Nat → Nat → Nat} {pn g k : Nat} (h : k ≤ pn) (h2 : (M pn k).testBit g = true) : jfw M pn g (pn + 1 - k) k = nI k := by rw [show pn + 1 - k = (pn - k) + 1 by omega, jfw, if_pos h2]
theorem jfw_f {M : Nat → Nat → Nat} {pn g k : Nat} (h : k ≤ pn) (h2 : (M pn k).testBit g = false) : jfw M pn g (pn + 1 - k) k = jfw M pn g (pn + 1 - (k + 1)) (k + 1) := by rw [show pn + 1 - k = (pn + 1 - (k + 1)) + 1 by omega, jfw, if_neg (by rw [h2]; decide)]
def jhl (M : Nat → Nat → Nat) (pn : Nat) : Bool := decide (¬ jfw M pn 0 pn 1 = -1) && decide (¬ nI pn ≤ jfw M pn 0 pn 1)
/-- the set of c of the first p places of the least number that makes l -/
def jls (od : Nat) (mf af f : Nat → Nat) (M : Nat → Nat → Nat) : Nat → Nat → Nat → Nat → Nat
  | 0, _, _, s => s
  | p + 1, l, c, s => if (M p c).testBit l then jls od mf af f M p l c s else jls od mf af f M p (jpl od mf l (jop od af (f p))) (c - 1) (s ||| 2 ^ p)
theorem jhl_f1 {M : Nat → Nat → Nat} {pn : Nat} (h : jfw M pn 0 pn 1 = -1) : jhl M pn = false := by simp [jhl, h]
theorem jhl_f2 {M : Nat → Nat → Nat} {pn : Nat} (h : nI pn ≤ jfw M pn 0 pn 1) : jhl M pn = false := by simp [jhl, h]
theorem jhl_t {M : Nat → Nat → Nat} {pn : Nat} (h : ¬ jfw M pn 0 pn 1 = -1) (h2 : ¬ nI pn ≤ jfw M pn 0 pn 1) : jhl M pn = true := by simp [jhl, h]; simpa using h2
theorem jaw_step {od : Nat} {mf af : Nat → Nat} {W W1 : Nat → Nat → Nat} {k i el : Nat} (hk : 1 ≤ k) (hh : ∀ x y, W1 x y = if x = k ∧ y < i then W x y + W (k - 1) (jpl od mf y (jop od af el)) else W x y) :
    ∀ x y, jm2 W1 k i (W1 k i + W1 (k - 1) (jpl od mf i (jop od af el))) x y = if x = k ∧ y < i + 1 then W x y + W (k - 1) (jpl od mf y (jop od af el)) else W x y := by
  intro x y
  by_cases z : x = k ∧ y = i
  · obtain ⟨rfl, rfl⟩ := z
    rw [jm2_at, hh, if_neg (by omega), hh, if_neg (by omega), if_pos (by omega)]
  · rw [jm2_ne (by omega), hh]
    by_cases q : x = k ∧ y < i
    · rw [if_pos q, if_pos (by omega)]
    · rw [if_neg q, if_neg (by omega)]
def jws (W : Nat → Nat → Nat) (g : Nat) : Nat → Nat
  | 0 => 0
  | k + 1 => jws W g k + W (k + 1) g
/-- in how many ways k of the first i places make y -/
def wsub (od : Nat) (mf af f : Nat → Nat) : Nat → Nat → Nat → Nat
  | 0, k, y => if k = 0 ∧ y = 0 then 1 else 0
  | i + 1, 0, y => wsub od mf af f i 0 y
  | i + 1, k + 1, y => wsub od mf af f i (k + 1) y + wsub od mf af f i k (jpl od mf y (jop od af (f i)))
theorem wsub_0 {od : Nat} {mf af f : Nat → Nat} : ∀ {i k y : Nat}, i < k → wsub od mf af f i k y = 0
  | 0, k, y, h => by unfold wsub; rw [if_neg (by omega)]
  | i + 1, k, y, h => by
    obtain ⟨j, rfl⟩ : ∃ j, k = j + 1 := ⟨k - 1, by omega⟩
    rw [wsub, wsub_0 (by omega), wsub_0 (by omega)]
theorem jws_init {od : Nat} {mf af f : Nat → Nat} {W1 : Nat → Nat → Nat} (hh : ∀ x y, x < 13 → y < 24 → W1 x y = 0) : ∀ k, k ≤ 12 → ∀ y, y < 24 → jm2 W1 0 0 1 k y = wsub od mf af f 0 k y := by
  intro k hk y hy
  unfold wsub
  by_cases z : k = 0 ∧ y = 0
  · obtain ⟨rfl, rfl⟩ := z
    rw [jm2_at, if_pos ⟨rfl, rfl⟩]
  · rw [jm2_ne (by omega), if_neg z, hh k y (by omega) hy]
theorem jcw_step {od : Nat} {mf af f : Nat → Nat} {W4 U : Nat → Nat → Nat} {n i k : Nat} (hn : i < 12) (hT : jtab od mf af) (hi : i ≤ n) (hk : 1 ≤ k ∧ k ≤ i + 1) (h5 : ∀ x, x ≤ 12 → ∀ y, y < od → W4 x y = if k < x then wsub od mf af f (i + 1) x y else wsub od mf af f i x y)
    (hu : ∀ x y, U x y = if x = k ∧ y < od then W4 x y + W4 (k - 1) (jpl od mf y (jop od af (f i))) else W4 x y) : ∀ x, x ≤ 12 → ∀ y, y < od → U x y = if k - 1 < x then wsub od mf af f (i + 1) x y else wsub od mf af f i x y := by
  intro x hx y hy
  rw [hu]
  by_cases z : x = k
  · subst z
    rw [if_pos ⟨rfl, hy⟩, h5 x hx y hy, if_neg (by omega), h5 (x - 1) (by omega) _ (jpl_lt hT (by omega) _ _), if_neg (by omega), if_pos (by omega)]
    obtain ⟨j, rfl⟩ : ∃ j, x = j + 1 := ⟨x - 1, by omega⟩
    rfl
  · rw [if_neg (fun q => z q.1), h5 x hx y hy]
    by_cases q : k < x
    · rw [if_pos q, if_pos (by omega)]
    · rw [if_neg q, if_neg (by omega)]
