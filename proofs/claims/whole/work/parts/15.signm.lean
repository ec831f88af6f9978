/-! signs -/
def jwb (od : Nat) (mf af : Nat → Nat) (el w sn : Nat) : Nat := if sn = 1 then jpl od mf w (jop od af el) else if sn = 2 then jpl od mf w el else w
theorem jwb_2 {od : Nat} {mf af : Nat → Nat} {el w sn : Nat} (h : ¬ sn = 1) (h2 : sn = 2) : some (Value.int (nI (jwb od mf af el w sn))) = some (.int (nI (jpl od mf w el))) := by rw [jwb, if_neg h, if_pos h2]
theorem jwb_0 {od : Nat} {mf af : Nat → Nat} {el w sn : Nat} (h : ¬ sn = 1) (h2 : ¬ sn = 2) : some (Value.int (nI (jwb od mf af el w sn))) = some (.int (nI w)) := by rw [jwb, if_neg h, if_neg h2]
theorem jwb_24 {od : Nat} {mf af : Nat → Nat} {el w sn : Nat} (hT : jtab od mf af) (hw : w < 24) : jwb od mf af el w sn < 24 := by
  unfold jwb
  split
  · exact jpl_24 hT _ _
  · split
    · exact jpl_24 hT _ _
    · exact hw
def jcs (od : Nat) (mf af : Nat → Nat) (el : Nat) (C : Nat → Nat) (y : Nat) : Nat := if y < od then C y + C (jpl od mf y el) + C (jpl od mf y (jop od af el)) else C y
theorem jmu_step2 {f h F : Nat → Nat} {i v : Nat} (hh : ∀ j, h j = if j < i then F j else f j) (hv : v = F i) : ∀ j, va_up h i v j = if j < i + 1 then F j else f j := by
  subst hv; exact jmu_step hh
/-- in how many ways the first i places, with signs, make y -/
def jcsub (od : Nat) (mf af f : Nat → Nat) : Nat → Nat → Nat
  | 0 => fun y => if y = 0 then 1 else 0
  | i + 1 => jcs od mf af (f i) (jcsub od mf af f i)
theorem jcs_congr {od : Nat} {mf af : Nat → Nat} {el : Nat} {C D : Nat → Nat} (hT : jtab od mf af) (he : True) (h : ∀ y, y < 24 → C y = D y) : ∀ y, y < 24 → jcs od mf af el C y = jcs od mf af el D y := by
  intro y hy
  unfold jcs
  rw [h y hy, h _ (jpl_24 hT _ _), h _ (jpl_24 hT _ _)]
/-- what the last d of n places make with signs: in any way; not all of them left -/
def jany (od : Nat) (mf af f : Nat → Nat) (n : Nat) : Nat → Nat
  | 0 => 1
  | d + 1 => jany od mf af f n d ||| (jmoved od mf (jany od mf af f n d) (f (n - (d + 1))) od ||| jmoved od mf (jany od mf af f n d) (jop od af (f (n - (d + 1)))) od)
def jsome (od : Nat) (mf af f : Nat → Nat) (n : Nat) : Nat → Nat
  | 0 => 0
  | d + 1 => jsome od mf af f n d ||| (jmoved od mf (jany od mf af f n d) (f (n - (d + 1))) od ||| jmoved od mf (jany od mf af f n d) (jop od af (f (n - (d + 1)))) od)
theorem jany_lt {od : Nat} {mf af f : Nat → Nat} {n : Nat} (hT : jtab od mf af) : ∀ d, jany od mf af f n d < 2 ^ 24
  | 0 => by show 1 < _; decide
  | d + 1 => Nat.or_lt_two_pow (jany_lt hT d) (Nat.or_lt_two_pow (jmoved_lt hT _ _ _) (jmoved_lt hT _ _ _))
theorem jsome_lt {od : Nat} {mf af f : Nat → Nat} {n : Nat} (hT : jtab od mf af) : ∀ d, jsome od mf af f n d < 2 ^ 24
  | 0 => by show 0 < _; decide
  | d + 1 => Nat.or_lt_two_pow (jsome_lt hT d) (Nat.or_lt_two_pow (jmoved_lt hT _ _ _) (jmoved_lt hT _ _ _))
theorem jse_step {od : Nat} {mf af f : Nat → Nat} {n k : Nat} {Y Z : Nat → Nat} (hk : k + 1 ≤ n) (hh : ∀ i, k + 1 ≤ i → i ≤ n → Y i = jany od mf af f n (n - i) ∧ Z i = jsome od mf af f n (n - i)) :
    ∀ i, k ≤ i → i ≤ n → va_up Y k (Y (k + 1) ||| (jmoved od mf (Y (k + 1)) (f k) od ||| jmoved od mf (Y (k + 1)) (jop od af (f k)) od)) i = jany od mf af f n (n - i) ∧ va_up Z k (Z (k + 1) ||| (jmoved od mf (Y (k + 1)) (f k) od ||| jmoved od mf (Y (k + 1)) (jop od af (f k)) od)) i = jsome od mf af f n (n - i) := by
  intro i h1 h2
  by_cases z : i = k
  · subst z
    obtain ⟨a, b⟩ := hh (i + 1) (by omega) (by omega)
    rw [up_at, up_at, a, b, show n - i = (n - (i + 1)) + 1 by omega, jany, jsome, show n - (n - (i + 1) + 1) = i by omega]
    exact ⟨rfl, rfl⟩
  · rw [up_ne z, up_ne z]
    exact hh i (by omega) h2
def jfs (od : Nat) (mf af Y Z : Nat → Nat) (el i w : Nat) (al : Bool) : Nat := if (if al then Z (i + 1) else Y (i + 1)).testBit w then 0 else if (Y (i + 1)).testBit (jwb od mf af el w 1) then 1 else 2
section
variable {od : Nat} {mf af Y Z : Nat → Nat} {el i w : Nat} {al : Bool}
theorem jfs_0t (h : al = true) (h2 : (Z (i + 1)).testBit w = true) : some (Value.int (nI (jfs od mf af Y Z el i w al))) = some (.int (nI 0)) := by subst h; rw [jfs, if_pos rfl, if_pos h2]
theorem jfs_0f (h : al = false) (h2 : (Y (i + 1)).testBit w = true) : some (Value.int (nI (jfs od mf af Y Z el i w al))) = some (.int (nI 0)) := by simp [jfs, h, h2]
theorem jfs_1t (h : al = true) (h2 : (Z (i + 1)).testBit w = false) (h3 : (Y (i + 1)).testBit (jwb od mf af el w 1) = true) : some (Value.int (nI (jfs od mf af Y Z el i w al))) = some (.int (nI 1)) := by subst h; rw [jfs, if_pos rfl, h2, if_neg (by decide), if_pos h3]
theorem jfs_1f (h : al = false) (h2 : (Y (i + 1)).testBit w = false) (h3 : (Y (i + 1)).testBit (jwb od mf af el w 1) = true) : some (Value.int (nI (jfs od mf af Y Z el i w al))) = some (.int (nI 1)) := by simp [jfs, h, h2, h3]
theorem jfs_2t (h : al = true) (h2 : (Z (i + 1)).testBit w = false) (h3 : (Y (i + 1)).testBit (jwb od mf af el w 1) = false) : some (Value.int (nI (jfs od mf af Y Z el i w al))) = some (.int (nI 2)) := by subst h; rw [jfs, if_pos rfl, h2, if_neg (by decide), h3, if_neg (by decide)]
theorem jfs_2f (h : al = false) (h2 : (Y (i + 1)).testBit w = false) (h3 : (Y (i + 1)).testBit (jwb od mf af el w 1) = false) : some (Value.int (nI (jfs od mf af Y Z el i w al))) = some (.int (nI 2)) := by simp [jfs, h, h2, h3]
end
theorem jfs_3 (od : Nat) (mf af Y Z : Nat → Nat) (el i w : Nat) (al : Bool) : jfs od mf af Y Z el i w al < 3 := by
  unfold jfs
  repeat' split
  all_goals decide
/-- of the first row of signs: what is left to make, are all left, the sign; behind i places -/
def jfr (od : Nat) (mf af f : Nat → Nat) (n g : Nat) : Nat → Nat × Bool × Nat
  | 0 => (g, true, 0)
  | i + 1 =>
    let q := jfr od mf af f n g i
    let sn := jfs od mf af (fun k => jany od mf af f n (n - k)) (fun k => jsome od mf af f n (n - k)) (f i) i q.1 q.2.1
    (jwb od mf af (f i) q.1 sn, q.2.1 && decide (sn = 0), sn)
def jsgn (q : Nat → Nat × Bool × Nat) : Nat → Int32
  | 0 => -1
  | i + 1 => nI (q (i + 1)).2.2
theorem jfr_24 {od : Nat} {mf af f : Nat → Nat} {n g : Nat} (hT : jtab od mf af) (hg : g < 24) : ∀ i, (jfr od mf af f n g i).1 < 24
  | 0 => hg
  | i + 1 => jwb_24 hT (jfr_24 hT hg i)
theorem jfr_sg {od : Nat} {mf af f Y Z : Nat → Nat} {n g i : Nat} (h1 : Y (i + 1) = jany od mf af f n (n - (i + 1))) (h2 : Z (i + 1) = jsome od mf af f n (n - (i + 1))) :
    jfs od mf af Y Z (f i) i (jfr od mf af f n g i).1 (jfr od mf af f n g i).2.1 = (jfr od mf af f n g (i + 1)).2.2 := by
  show jfs od mf af Y Z (f i) i (jfr od mf af f n g i).1 (jfr od mf af f n g i).2.1 = jfs od mf af (fun k => jany od mf af f n (n - k)) (fun k => jsome od mf af f n (n - k)) (f i) i (jfr od mf af f n g i).1 (jfr od mf af f n g i).2.1
  unfold jfs
  rw [h1, h2]
theorem jfr_f1 {od : Nat} {mf af f : Nat → Nat} {n g i : Nat} (h : (jfr od mf af f n g i).2.1 = false) : (jfr od mf af f n g (i + 1)).2.1 = false := by
  show ((jfr od mf af f n g i).2.1 && _) = false
  rw [h]; rfl
theorem jfr_f2 {od : Nat} {mf af f : Nat → Nat} {n g i : Nat} (h : ¬ (jfr od mf af f n g (i + 1)).2.2 = 0) : (jfr od mf af f n g (i + 1)).2.1 = false := by
  show ((jfr od mf af f n g i).2.1 && decide ((jfr od mf af f n g (i + 1)).2.2 = 0)) = false
  rw [decide_eq_false h, Bool.and_false]
theorem jfr_t {od : Nat} {mf af f : Nat → Nat} {n g i : Nat} (h1 : (jfr od mf af f n g i).2.1 = true) (h : (jfr od mf af f n g (i + 1)).2.2 = 0) : (jfr od mf af f n g (i + 1)).2.1 = true := by
  show ((jfr od mf af f n g i).2.1 && decide ((jfr od mf af f n g (i + 1)).2.2 = 0)) = true
  rw [decide_eq_true h, h1]; rfl
