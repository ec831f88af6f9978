/-! signs and rows alike of the model -/
def mon (cd : Nat) (f : Nat → Nat) (n : Nat) : Nat → Nat → Nat
  | 0, g => if g = 0 then 1 else 0
  | d + 1, g => mon cd f n d g + mon cd f n d (gP cd g (gN cd (f (n - (d + 1))))) + mon cd f n d (gP cd g (f (n - (d + 1))))
def msgS (cd : Nat) (f : Nat → Nat) (n : Nat) : Nat → Nat → Bool
  | 0, _ => false
  | d + 1, g => msgS cd f n d g || (decide (0 < mon cd f n d (gP cd g (gN cd (f (n - (d + 1)))))) || decide (0 < mon cd f n d (gP cd g (f (n - (d + 1))))))
theorem mon_le {cd : Nat} {f : Nat → Nat} {n : Nat} : ∀ k g, mon cd f n k g ≤ 3 ^ k
  | 0, g => by unfold mon; split <;> decide
  | k + 1, g => by
    have h1 := mon_le (cd := cd) (f := f) (n := n) k g
    have h2 := mon_le (cd := cd) (f := f) (n := n) k (gP cd g (gN cd (f (n - (k + 1)))))
    have h3 := mon_le (cd := cd) (f := f) (n := n) k (gP cd g (f (n - (k + 1))))
    unfold mon
    rw [Nat.pow_succ]
    omega
theorem mon_b {cd : Nat} {f : Nat → Nat} {n k g : Nat} (hk : k ≤ 12) : mon cd f n k g < 2 ^ 20 := by
  have h1 := mon_le (cd := cd) (f := f) (n := n) k g
  have h2 : 3 ^ k ≤ 3 ^ 12 := Nat.pow_le_pow_right (by omega) hk
  omega
theorem mon_0 {cd : Nat} {f : Nat → Nat} {n : Nat} : ∀ k, 1 ≤ mon cd f n k 0
  | 0 => by show 1 ≤ (if (0 : Nat) = 0 then 1 else 0); decide
  | k + 1 => by
    have := mon_0 (cd := cd) (f := f) (n := n) k
    unfold mon
    omega
theorem mon_s {cd : Nat} {f : Nat → Nat} {n k g : Nat} (hk : k < n) : mon cd f n (n - k) g = mon cd f n (n - (k + 1)) g + mon cd f n (n - (k + 1)) (gP cd g (gN cd (f k))) + mon cd f n (n - (k + 1)) (gP cd g (f k)) := by
  conv => lhs; rw [show n - k = (n - (k + 1)) + 1 by omega, mon]
  rw [show n - (n - (k + 1) + 1) = k by omega]
theorem msgS_s {cd : Nat} {f : Nat → Nat} {n k g : Nat} (hk : k < n) : msgS cd f n (n - k) g = (msgS cd f n (n - (k + 1)) g || (decide (0 < mon cd f n (n - (k + 1)) (gP cd g (gN cd (f k)))) || decide (0 < mon cd f n (n - (k + 1)) (gP cd g (f k))))) := by
  conv => lhs; rw [show n - k = (n - (k + 1)) + 1 by omega, msgS]
  rw [show n - (n - (k + 1) + 1) = k by omega]
/-- the rows from k on, and of row k the first y elements -/
def mSG (cd : Nat) (f : Nat → Nat) (n : Nat) (O : Nat → Nat) (S : Nat → Bool) (k : Nat) : Prop := ∀ i, k ≤ i → i ≤ n → ∀ y, y < god cd → O (25 * i + y) = mon cd f n (n - i) y ∧ S (25 * i + y) = msgS cd f n (n - i) y
section
variable {cd n k y v : Nat} {f O : Nat → Nat} {S : Nat → Bool} {b : Bool}
theorem mSG_w (hg : god cd ≤ 24) (hy : y < god cd) (h : mSG cd f n O S (k + 1)) : mSG cd f n (va_up O (25 * k + y) v) (va_up S (25 * k + y) b) (k + 1) := fun i h1 h2 z hz => by
  rw [up_ne (by omega)]
  have : va_up S (25 * k + y) b (25 * i + z) = S (25 * i + z) := by unfold va_up; rw [if_neg (by omega)]
  rw [this]
  exact h i h1 h2 z hz


theorem mSG_y (hv : v = mon cd f n (n - k) y) (hb : b = msgS cd f n (n - k) y) (h : ∀ z, z < y → O (25 * k + z) = mon cd f n (n - k) z ∧ S (25 * k + z) = msgS cd f n (n - k) z) : ∀ z, z < y + 1 → va_up O (25 * k + y) v (25 * k + z) = mon cd f n (n - k) z ∧ va_up S (25 * k + y) b (25 * k + z) = msgS cd f n (n - k) z := fun z hz => by
  by_cases q : z = y
  · subst q; rw [up_at, uq_at]; exact ⟨hv, hb⟩
  · rw [up_ne (by omega), uq_ne (by omega)]; exact h z (by omega)
theorem mSG_k (hk : k ≤ n) (h : mSG cd f n O S (k + 1)) (h2 : ∀ z, z < god cd → O (25 * k + z) = mon cd f n (n - k) z ∧ S (25 * k + z) = msgS cd f n (n - k) z) : mSG cd f n O S k := fun i h3 h4 z hz => by
  by_cases q : i = k
  · subst q; exact h2 z hz
  · exact h i (by omega) h4 z hz
end
/-- of the first signed row: what is left, is there a place that is not left, the sign -/
def mfrS (cd : Nat) (f : Nat → Nat) (n gg : Nat) : Nat → Nat × Bool × Nat
  | 0 => (gg, false, 0)
  | i + 1 =>
    if (if (mfrS cd f n gg i).2.1 = true then decide (0 < mon cd f n (n - (i + 1)) (mfrS cd f n gg i).1) else msgS cd f n (n - (i + 1)) (mfrS cd f n gg i).1) = true then ((mfrS cd f n gg i).1, (mfrS cd f n gg i).2.1, 0)
    else if 0 < mon cd f n (n - (i + 1)) (gP cd (mfrS cd f n gg i).1 (gN cd (f i))) then (gP cd (mfrS cd f n gg i).1 (gN cd (f i)), true, 1) else (gP cd (mfrS cd f n gg i).1 (f i), true, 2)
theorem mfrS_lt {cd : Nat} {f : Nat → Nat} {n gg : Nat} (h : cd ∈ jcodes) (hf : ∀ j, j < n → f j < god cd) (hg : gg < god cd) : ∀ i, i ≤ n → (mfrS cd f n gg i).1 < god cd ∧ (mfrS cd f n gg i).2.2 < 3
  | 0, _ => ⟨hg, by show 0 < 3; omega⟩
  | i + 1, hi => by
    have ih := mfrS_lt h hf hg i (by omega)
    have h1 := hf i (by omega)
    unfold mfrS
    generalize (if (mfrS cd f n gg i).2.1 = true then decide (0 < mon cd f n (n - (i + 1)) (mfrS cd f n gg i).1) else msgS cd f n (n - (i + 1)) (mfrS cd f n gg i).1) = b
    cases b with
    | true =>
      rw [if_pos rfl]
      exact ⟨ih.1, by show 0 < 3; omega⟩
    | false =>
      rw [if_neg (by decide)]
      split
      · exact ⟨gP_lt h ih.1 (gN_in h h1).1, by show 1 < 3; omega⟩
      · exact ⟨gP_lt h ih.1 h1, by show 2 < 3; omega⟩
section
variable {cd n gg i : Nat} {f : Nat → Nat}
theorem mfrS_0 (h : (if (mfrS cd f n gg i).2.1 = true then decide (0 < mon cd f n (n - (i + 1)) (mfrS cd f n gg i).1) else msgS cd f n (n - (i + 1)) (mfrS cd f n gg i).1) = true) : mfrS cd f n gg (i + 1) = ((mfrS cd f n gg i).1, (mfrS cd f n gg i).2.1, 0) := by rw [mfrS, if_pos h]
theorem mfrS_1 (h : (if (mfrS cd f n gg i).2.1 = true then decide (0 < mon cd f n (n - (i + 1)) (mfrS cd f n gg i).1) else msgS cd f n (n - (i + 1)) (mfrS cd f n gg i).1) = false) (h2 : 0 < mon cd f n (n - (i + 1)) (gP cd (mfrS cd f n gg i).1 (gN cd (f i)))) : mfrS cd f n gg (i + 1) = (gP cd (mfrS cd f n gg i).1 (gN cd (f i)), true, 1) := by rw [mfrS, if_neg (by rw [h]; decide), if_pos h2]
theorem mfrS_2 (h : (if (mfrS cd f n gg i).2.1 = true then decide (0 < mon cd f n (n - (i + 1)) (mfrS cd f n gg i).1) else msgS cd f n (n - (i + 1)) (mfrS cd f n gg i).1) = false) (h2 : ¬ 0 < mon cd f n (n - (i + 1)) (gP cd (mfrS cd f n gg i).1 (gN cd (f i)))) : mfrS cd f n gg (i + 1) = (gP cd (mfrS cd f n gg i).1 (f i), true, 2) := by rw [mfrS, if_neg (by rw [h]; decide), if_neg h2]
theorem mfrS_q (b : Bool) (p : Bool) (m : Nat) (hb : b = true) (hm : 0 < m) : (if b = true then decide (0 < m) else p) = true := by rw [if_pos hb, decide_eq_true hm]
theorem mfrS_q0 (b : Bool) (p : Bool) (m : Nat) (hb : b = true) (hm : ¬ 0 < m) : (if b = true then decide (0 < m) else p) = false := by rw [if_pos hb, decide_eq_false hm]
theorem mfrS_p (b : Bool) (p : Bool) (m : Nat) (hb : b = false) (hp : p = true) : (if b = true then decide (0 < m) else p) = true := by rw [if_neg (by rw [hb]; decide), hp]
theorem mfrS_p0 (b : Bool) (p : Bool) (m : Nat) (hb : b = false) (hp : p = false) : (if b = true then decide (0 < m) else p) = false := by rw [if_neg (by rw [hb]; decide), hp]
end
theorem jmul_1 {cd a : Nat} (h : cd ∈ jcodes) (ha : a < god cd) : jmul (god cd) (jmf cd) a 1 = a := by
  show gP cd 0 a = a
  exact gP_0l h ha
theorem jtab_cd {cd : Nat} (h : cd ∈ jcodes) : jtab (god cd) (jmf cd) (jaf cd) := by
  have h24 := (g_small cd h).2.1
  refine ⟨h24, fun a b ha hb => ?_, fun a ha => ?_⟩
  · rw [jmf, show (a * 24 + b) / 24 = a by omega, show (a * 24 + b) % 24 = b by omega]
    exact g_closed cd h a ha b hb
  · have h1 := (gN_in h ha).1
    unfold gN jop at h1
    rw [if_pos ha] at h1
    exact h1
