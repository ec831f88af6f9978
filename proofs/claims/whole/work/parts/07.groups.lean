/-! groups by their code -/
def gsz (cd i : Nat) : Nat := (cd >>> (5 * i)) &&& 31
/-- all codes of groups; 0: none -/
def jcodes : List Nat := 0 :: ((List.range 25).flatMap fun a => if a < 2 then [] else a :: ((List.range 13).flatMap fun b => if b < 2 ∨ 24 < a * b then [] else (a + 32 * b) :: ((List.range 7).filterMap fun c => if c < 2 ∨ 24 < a * b * c then none else some (a + 32 * b + 1024 * c))))
def gpt (cd : Nat) : Nat := if gsz cd 0 = 0 then 0 else if gsz cd 1 = 0 then 1 else if gsz cd 2 = 0 then 2 else 3
def gpr (cd : Nat) : Nat → Nat
  | 0 => if cd = 0 then 0 else 1
  | i + 1 => gpr cd i * gsz cd i
def god (cd : Nat) : Nat := gpr cd (gpt cd)
def glc (a b : Nat) : Nat → Nat → Nat
  | 0, m => m
  | n + 1, m => if m % b = 0 then m else glc a b n (m + a)
def glcm (a b : Nat) : Nat := glc a b (b - 1) a
def gxp (cd : Nat) : Nat → Nat
  | 0 => if cd = 0 then 0 else 1
  | i + 1 => glcm (gxp cd i) (gsz cd i)
def gex (cd : Nat) : Nat := gxp cd (gpt cd)
def gpb (cd : Nat) : Nat → Nat → Nat → Nat → Nat → Nat
  | 0, _, _, _, r => r
  | k + 1, a, b, w, r => gpb cd k (a / gsz cd k) (b / gsz cd k) (w * gsz cd k) (r + w * ((a % gsz cd k + b % gsz cd k) % gsz cd k))
/-- two elements together -/
def gpl (cd a b : Nat) : Nat := gpb cd (gpt cd) a b 1 0
theorem g_small : ∀ cd ∈ jcodes, cd < 2 ^ 15 ∧ god cd ≤ 24 ∧ gex cd ≤ 24 ∧ gpt cd ≤ 3 ∧ (∀ i, i < gpt cd → 2 ≤ gsz cd i ∧ gsz cd i ≤ 24) ∧ (∀ i, i < 3 → gsz cd i = 0 → gpt cd ≤ i) ∧ (∀ i, i < 4 → gpr cd i ≤ 24 ∧ gxp cd i ≤ 24) := by decide +kernel
theorem g_closed : ∀ cd ∈ jcodes, ∀ a, a < god cd → ∀ b, b < god cd → gpl cd a b < god cd := by decide +kernel
theorem g_inv : ∀ cd ∈ jcodes, ∀ a, a < god cd → ∃ b, b < god cd ∧ gpl cd a b = 0 ∧ ∀ c, c < god cd → gpl cd a c = 0 → c = b := by decide +kernel
theorem g_comm : ∀ cd ∈ jcodes, ∀ a, a < god cd → ∀ b, b < god cd → gpl cd a b = gpl cd b a := by decide +kernel
theorem g_zero : ∀ cd ∈ jcodes, ∀ a, a < god cd → gpl cd a 0 = a := by decide +kernel
theorem gsz_lt (cd i : Nat) : gsz cd i < 32 := by have := @Nat.and_le_right (cd >>> (5 * i)) 31; unfold gsz; omega
theorem gsz_eq (cd i : Nat) : (cd >>> (5 * i)) &&& 31 = gsz cd i := rfl
/-- what a group's cells hold -/
def gIs (cd pt od ex : Nat) (mf af : Nat → Nat) : Prop := cd ∈ jcodes ∧ pt = gpt cd ∧ od = god cd ∧ ex = gex cd ∧ (∀ a b, a < od → b < od → mf (a * 24 + b) = gpl cd a b) ∧ ∀ a b, a < od → b < od → gpl cd a b = 0 → af a = b
theorem gIs.tab {cd pt od ex : Nat} {mf af : Nat → Nat} (h : gIs cd pt od ex mf af) : jtab od mf af := by
  obtain ⟨h1, h2, h3, h4, h5, h6⟩ := h
  subst h3
  refine ⟨(g_small cd h1).2.1, fun a b ha hb => ?_, fun a ha => ?_⟩
  · rw [h5 a b ha hb]; exact g_closed cd h1 a ha b hb
  · obtain ⟨b, hb, hz, -⟩ := g_inv cd h1 a ha
    rw [h6 a b ha hb hz]; exact hb
theorem glc_0 {a b i w : Nat} (hr : glcm a b = glc a b (b - i) w) (h : b ≤ i) : some (Value.int (nI (glcm a b))) = some (.int (nI w)) := by
  rw [hr, show b - i = 0 by omega]; rfl
theorem glc_s {a b i w : Nat} (hr : glcm a b = glc a b (b - i) w) (h : i < b) (hz : w % b = 0) : some (Value.int (nI (glcm a b))) = some (.int (nI w)) := by
  rw [hr, show b - i = (b - i - 1) + 1 by omega, glc, if_pos hz]
section
variable {F : Nat → Nat → Nat} {m2 a2 : Nat → Nat} {i j od : Nat}
theorem gft_out {m1 a1 : Nat → Nat} (hj : od ≤ j) (h2 : (∀ a b, a < i → b < od → m1 (a * 24 + b) = F a b) ∧ ∀ a b, a < i → b < od → F a b = 0 → a1 a = b) (hh2 : (∀ b, b < j → m1 (i * 24 + b) = F i b) ∧ ∀ b, b < j → F i b = 0 → a1 i = b) :
    (∀ a b, a < i + 1 → b < od → m1 (a * 24 + b) = F a b) ∧ ∀ a b, a < i + 1 → b < od → F a b = 0 → a1 a = b := by
  refine ⟨fun a b ha hb => ?_, fun a b ha hb => ?_⟩
  · rcases Nat.lt_or_ge a i with z | z
    · exact h2.1 a b z hb
    · obtain rfl : a = i := by omega
      exact hh2.1 b (by omega)
  · rcases Nat.lt_or_ge a i with z | z
    · exact h2.2 a b z hb
    · obtain rfl : a = i := by omega
      exact hh2.2 b (by omega)
theorem gft_k1 {v : Nat} (ho : od ≤ 24 ∧ j < od) (h2 : (∀ a b, a < i → b < od → m2 (a * 24 + b) = F a b) ∧ ∀ a b, a < i → b < od → F a b = 0 → a2 a = b) :
    (∀ a b, a < i → b < od → va_up m2 (i * 24 + j) v (a * 24 + b) = F a b) ∧ ∀ a b, a < i → b < od → F a b = 0 → a2 a = b :=
  ⟨fun a b ha hb => by rw [up_ne (by omega)]; exact h2.1 a b ha hb, h2.2⟩
theorem gft_k2 {v w : Nat} (ho : od ≤ 24 ∧ j < od) (h2 : (∀ a b, a < i → b < od → m2 (a * 24 + b) = F a b) ∧ ∀ a b, a < i → b < od → F a b = 0 → a2 a = b) :
    (∀ a b, a < i → b < od → va_up m2 (i * 24 + j) v (a * 24 + b) = F a b) ∧ ∀ a b, a < i → b < od → F a b = 0 → va_up a2 i w a = b :=
  ⟨fun a b ha hb => by rw [up_ne (by omega)]; exact h2.1 a b ha hb, fun a b ha hb hz => by rw [up_ne (by omega)]; exact h2.2 a b ha hb hz⟩
theorem gft_i1 (hh2 : (∀ b, b < j → m2 (i * 24 + b) = F i b) ∧ ∀ b, b < j → F i b = 0 → a2 i = b) (hz : ¬ F i j = 0) :
    (∀ b, b < j + 1 → va_up m2 (i * 24 + j) (F i j) (i * 24 + b) = F i b) ∧ ∀ b, b < j + 1 → F i b = 0 → a2 i = b := by
  refine ⟨fun b hb => ?_, fun b hb h0 => ?_⟩
  · by_cases z : b = j
    · subst z; exact up_at
    · rw [up_ne (by omega)]; exact hh2.1 b (by omega)
  · by_cases z : b = j
    · subst z; exact absurd h0 hz
    · exact hh2.2 b (by omega) h0
theorem gft_i2 (hun : ∀ a b c, a < od → b < od → c < od → F a b = 0 → F a c = 0 → b = c) (hi : i < od) (ho : od ≤ 24 ∧ j < od) (hh2 : (∀ b, b < j → m2 (i * 24 + b) = F i b) ∧ ∀ b, b < j → F i b = 0 → a2 i = b) (hz : F i j = 0) :
    (∀ b, b < j + 1 → va_up m2 (i * 24 + j) (F i j) (i * 24 + b) = F i b) ∧ ∀ b, b < j + 1 → F i b = 0 → va_up a2 i j i = b := by
  refine ⟨fun b hb => ?_, fun b hb h0 => ?_⟩
  · by_cases z : b = j
    · subst z; exact up_at
    · rw [up_ne (by omega)]; exact hh2.1 b (by omega)
  · rw [up_at]
    exact hun i j b hi (by omega) (by omega) hz h0
end
theorem g_end {cd : Nat} (h : gpt cd < 3) : gsz cd (gpt cd) = 0 := by
  unfold gpt at h ⊢
  split
  · assumption
  · split
    · assumption
    · split
      · assumption
      · rename_i h1 h2 h3
        rw [if_neg h1, if_neg h2, if_neg h3] at h
        omega
theorem g_next {cd i : Nat} (hi : i ≤ gpt cd) (h3 : i < 3) (hz : 0 < gsz cd i) : i + 1 ≤ gpt cd := by
  rcases Nat.lt_or_ge i (gpt cd) with q | q
  · exact q
  · obtain rfl : i = gpt cd := by omega
    have := g_end h3
    omega
