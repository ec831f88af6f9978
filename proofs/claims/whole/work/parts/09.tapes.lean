/-! tapes -/
theorem j_lt0 {i : Int32} (h : i < 0) : i.toInt < 0 := by rw [Int32.lt_iff_toInt_lt, Int32.toInt_zero] at h; exact h
theorem j_nlt0 {i : Int32} (h : ¬ i < 0) : 0 ≤ i.toInt := by rw [Int32.lt_iff_toInt_lt, Int32.toInt_zero] at h; omega
def jcut (i : Int32) (n : Nat) : Bool := decide (0 ≤ i.toInt ∧ i.toInt ≤ n)
def jcutn (i : Int32) (n : Nat) : Nat := if jcut i n then i.toNatClampNeg else n
theorem jcut_1 {i : Int32} {n : Nat} (h : i < 0) : jcut i n = false := decide_eq_false (fun q => by have := j_lt0 h; omega)
theorem jcut_le {i : Int32} {n : Nat} (hn : n < 2 ^ 31) : i ≤ nI n ↔ i.toInt ≤ n := by rw [Int32.le_iff_toInt_le, nI_toInt hn]
theorem jcut_2 {i : Int32} {n : Nat} (h : ¬ i ≤ nI n) (hn : n ≤ 340 := by assumption) : jcut i n = false := decide_eq_false (fun q => h ((jcut_le (by omega)).mpr q.2))
theorem jcut_3 {i : Int32} {n : Nat} (h0 : ¬ i < 0) (h : i ≤ nI n) (hn : n ≤ 340 := by assumption) : jcut i n = true := decide_eq_true ⟨j_nlt0 h0, (jcut_le (by omega)).mp h⟩
theorem jcutn_f {i : Int32} {n : Nat} (h : jcut i n = false) : jcutn i n = n := by rw [jcutn, h]; rfl
theorem jcutn_t {i : Int32} {n : Nat} (h0 : ¬ i < 0) (h : i ≤ nI n) (hn : n ≤ 340 := by assumption) : nI (jcutn i n) = i := by
  rw [jcutn, jcut_3 h0 h hn]
  obtain ⟨j, hj, rfl⟩ := nI_of h0
  rw [if_pos rfl, nI_clamp hj]
/-- the four bytes of a number, the highest first -/
def jby (v : Int32) (j : Nat) : Int32 := (v.toUInt32 >>> ((nI (24 - 8 * j)).toUInt32 &&& Int32.toUInt32 31)).toInt32.toInt8.toInt32
theorem jap_post (f : Nat → Int32) (n : Nat) (v : Int32) : ∀ j, va_up (va_up (va_up (va_up f n (jby v 0)) (n + 1) (jby v 1)) (n + 1 + 1) (jby v 2)) (n + 1 + 1 + 1) (jby v 3) j = if j < n then f j else if j < n + 4 then jby v (j - n) else f j := by
  intro j
  unfold va_up
  by_cases h3 : j = n + 3
  · subst h3; rw [if_pos (by omega), if_neg (by omega), if_pos (by omega), show n + 3 - n = 3 by omega]
  · by_cases h2 : j = n + 2
    · subst h2; rw [if_neg (by omega), if_pos (by omega), if_neg (by omega), if_pos (by omega), show n + 2 - n = 2 by omega]
    · by_cases h1 : j = n + 1
      · subst h1; rw [if_neg (by omega), if_neg (by omega), if_pos (by omega), if_neg (by omega), if_pos (by omega), show n + 1 - n = 1 by omega]
      · by_cases h0 : j = n
        · subst h0; rw [if_neg (by omega), if_neg (by omega), if_neg (by omega), if_pos (by omega), if_neg (by omega), if_pos (by omega), Nat.sub_self]
        · rw [if_neg (by omega), if_neg (by omega), if_neg (by omega), if_neg (by omega)]
          by_cases h : j < n
          · rw [if_pos h]
          · rw [if_neg h, if_neg (by omega)]
theorem j_min8 {p : Nat} (h : p ≤ 8) : (if nI 8 < nI (p + 1) then nI 8 else nI (p + 1)) = nI (if 8 < p + 1 then 8 else p + 1) := by
  by_cases z : 8 < p + 1
  · rw [if_pos z, if_pos ((nI_ltI (by omega) (by omega)).mpr z)]
  · rw [if_neg z, if_neg (fun q => z ((nI_ltI (by omega) (by omega)).mp q))]
