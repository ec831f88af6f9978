/-! the model's reader: tokens -/
def jlet (b : Nat) : Bool := decide (97 ≤ b ∧ b ≤ 122)
theorem jal_or {b : Nat} : jal b = (jlet b || jdg b) := by
  unfold jal jlet jdg
  rw [Bool.eq_iff_iff, Bool.or_eq_true, decide_eq_true_eq, decide_eq_true_eq, decide_eq_true_eq]
theorem jal_48 {b : Nat} (h : jal b = true) : 48 ≤ b ∧ b ≤ 122 := by
  unfold jal at h
  have := of_decide_eq_true h
  omega
def tzA (t : Nat → Nat) (sz i : Nat) : Nat := if i < sz then t i else 0
theorem tzA_lt {t : Nat → Nat} {sz i : Nat} (hB : ∀ j, t j < 256) : tzA t sz i < 256 := by
  unfold tzA
  split
  · exact hB i
  · omega
theorem tzA_al {t : Nat → Nat} {sz i : Nat} (h : jal (tzA t sz i) = true) : i < sz ∧ tzA t sz i = t i := by
  unfold tzA at h ⊢
  by_cases z : i < sz
  · rw [if_pos z]; exact ⟨z, rfl⟩
  · rw [if_neg z] at h; exact absurd h (by decide)
theorem tzA_end {t : Nat → Nat} {sz i : Nat} (h : jal (tzA t sz i) = false) (hi : i ≤ sz) : lrn t (sz - i) i = i := by
  unfold tzA at h
  by_cases z : i < sz
  · rw [if_pos z] at h; exact lrn_f h
  · exact lrn_0 (by omega)
/-- are the first c bytes from p on all letters or none a letter, as the first is? -/
def mgdS (t : Nat → Nat) (p : Nat) : Nat → Bool
  | 0 => true
  | c + 1 => mgdS t p c && (jlet (t (p + c)) == jlet (t p))
def mwdS (t : Nat → Nat) (p : Nat) : Nat → Int64
  | 0 => 0
  | c + 1 => if c < 6 then 27 * mwdS t p c + (nI (t (p + c))).toInt64 - 96 else mwdS t p c
def mnmS (t : Nat → Nat) (p : Nat) : Nat → Nat
  | 0 => 0
  | c + 1 => if c < 2 then 10 * mnmS t p c + t (p + c) - 48 else mnmS t p c
theorem mgdS_f {t : Nat → Nat} {p c : Nat} (h : mgdS t p c = false) : mgdS t p (c + 1) = false := by rw [mgdS, h, Bool.false_and]
theorem mgdS_t {t : Nat → Nat} {p c : Nat} (h : mgdS t p c = true) (h2 : jB (jlet (t (p + c))) = jB (jlet (t p))) : mgdS t p (c + 1) = true := by
  rw [mgdS, h]
  revert h2
  cases jlet (t (p + c)) <;> cases jlet (t p) <;> decide
theorem mgdS_n {t : Nat → Nat} {p c : Nat} (h2 : ¬ jB (jlet (t (p + c))) = jB (jlet (t p))) : mgdS t p (c + 1) = false := by
  rw [mgdS]
  revert h2
  cases jlet (t (p + c)) <;> cases jlet (t p) <;> cases mgdS t p c <;> decide
/-- the next token: where to go on, where it is, kind, number, word -/
def nxT (t : Nat → Nat) (sz to nu : Nat) (wd : Int64) : Nat × Nat × Nat × Nat × Int64 :=
  if 300 < sz ∧ 300 ≤ lsk t (sz - to) to then (lsk t (sz - to) to, 300, 1, nu, wd)
  else if sz ≤ lsk t (sz - to) to then (lsk t (sz - to) to, lsk t (sz - to) to, 0, nu, wd)
  else if jal (t (lsk t (sz - to) to)) = false then (lsk t (sz - to) to + 1, lsk t (sz - to) to, (if t (lsk t (sz - to) to) = 59 then 4 else 1), nu, wd)
  else (lrn t (sz - lsk t (sz - to) to) (lsk t (sz - to) to), lsk t (sz - to) to,
    (if mgdS t (lsk t (sz - to) to) (lrn t (sz - lsk t (sz - to) to) (lsk t (sz - to) to) - lsk t (sz - to) to) = false ∨ (jlet (t (lsk t (sz - to) to)) = false ∧ 2 < lrn t (sz - lsk t (sz - to) to) (lsk t (sz - to) to) - lsk t (sz - to) to) then 1 else if jlet (t (lsk t (sz - to) to)) = true then 2 else 3),
    mnmS t (lsk t (sz - to) to) (lrn t (sz - lsk t (sz - to) to) (lsk t (sz - to) to) - lsk t (sz - to) to), mwdS t (lsk t (sz - to) to) (lrn t (sz - lsk t (sz - to) to) (lsk t (sz - to) to) - lsk t (sz - to) to))
section
variable {t : Nat → Nat} {sz to nu p c : Nat} {wd : Int64}
theorem nxT_1 (hp : lsk t (sz - to) to = p) (h : 300 < sz ∧ 300 ≤ p) : nxT t sz to nu wd = (p, 300, 1, nu, wd) := by unfold nxT; rw [hp, if_pos h]
theorem nxT_2 (hp : lsk t (sz - to) to = p) (h : ¬ (300 < sz ∧ 300 ≤ p)) (h2 : sz ≤ p) : nxT t sz to nu wd = (p, p, 0, nu, wd) := by unfold nxT; rw [hp, if_neg h, if_pos h2]
theorem nxT_3 (hp : lsk t (sz - to) to = p) (h : ¬ (300 < sz ∧ 300 ≤ p)) (h2 : ¬ sz ≤ p) (h3 : jal (t p) = false) : nxT t sz to nu wd = (p + 1, p, (if t p = 59 then 4 else 1), nu, wd) := by unfold nxT; rw [hp, if_neg h, if_neg h2, if_pos h3]
theorem nxT_4 (hp : lsk t (sz - to) to = p) (h : ¬ (300 < sz ∧ 300 ≤ p)) (h2 : ¬ sz ≤ p) (h3 : jal (t p) = true) (hq : lrn t (sz - p) p = p + c) : nxT t sz to nu wd = (p + c, p, (if mgdS t p c = false ∨ (jlet (t p) = false ∧ 2 < c) then 1 else if jlet (t p) = true then 2 else 3), mnmS t p c, mwdS t p c) := by
  unfold nxT
  rw [hp, if_neg h, if_neg h2, if_neg (by rw [h3]; decide), hq, show p + c - p = c by omega]
end
/-- a word's value -/
def mspl (a b c : Nat) (d e : Int32) : Int64 := if ¬ 0 < e then (if ¬ 0 < d then 27 * (27 * ((nI a).toInt64 - 96) + (nI b).toInt64 - 96) + (nI c).toInt64 - 96 else 27 * (27 * (27 * ((nI a).toInt64 - 96) + (nI b).toInt64 - 96) + (nI c).toInt64 - 96) + d.toInt64 - 96) else 27 * (if ¬ 0 < d then 27 * (27 * ((nI a).toInt64 - 96) + (nI b).toInt64 - 96) + (nI c).toInt64 - 96 else 27 * (27 * (27 * ((nI a).toInt64 - 96) + (nI b).toInt64 - 96) + (nI c).toInt64 - 96) + d.toInt64 - 96) + e.toInt64 - 96
section
variable {t : Nat → Nat} {p c : Nat}
theorem nk1 (h : mgdS t p c = false) : (if mgdS t p c = false ∨ (jlet (t p) = false ∧ 2 < c) then 1 else if jlet (t p) = true then 2 else 3) = 1 := by rw [if_pos (Or.inl h)]
theorem nk2 (h : jlet (t p) = false) (h2 : 2 < c) : (if mgdS t p c = false ∨ (jlet (t p) = false ∧ 2 < c) then 1 else if jlet (t p) = true then 2 else 3) = 1 := by rw [if_pos (Or.inr ⟨h, h2⟩)]
theorem nk3 (h : mgdS t p c = true) (h2 : jlet (t p) = true) : (if mgdS t p c = false ∨ (jlet (t p) = false ∧ 2 < c) then 1 else if jlet (t p) = true then 2 else 3) = 2 := by
  rw [if_neg (fun z => by rw [h, h2] at z; rcases z with z | z; (· cases z); (· cases z.1)), if_pos h2]
theorem nk4 (h : mgdS t p c = true) (h2 : jlet (t p) = false) (h3 : c ≤ 2) : (if mgdS t p c = false ∨ (jlet (t p) = false ∧ 2 < c) then 1 else if jlet (t p) = true then 2 else 3) = 3 := by
  rw [if_neg (fun z => by rw [h] at z; rcases z with z | z; (· cases z); (· omega)), if_neg (by rw [h2]; decide)]
end
