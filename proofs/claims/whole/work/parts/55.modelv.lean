/-! the atoms of the most, one after the other -/
theorem mfst_ok {T : Nat → Bool} : ∀ k s, (∃ x, s ≤ x ∧ x < s + k ∧ T x = true) → T (mfst T k s) = true ∧ s ≤ mfst T k s ∧ mfst T k s < s + k ∧ ∀ x, s ≤ x → T x = true → mfst T k s ≤ x
  | 0, s, ⟨x, h1, h2, _⟩ => by omega
  | k + 1, s, ⟨x, h1, h2, h3⟩ => by
    unfold mfst
    by_cases q : T s = true
    · rw [if_pos q]
      exact ⟨q, Nat.le_refl _, by omega, fun x hx _ => hx⟩
    · rw [if_neg q]
      have hx : s + 1 ≤ x := by
        rcases Nat.lt_or_ge s x with z | z
        · exact z
        · obtain rfl : s = x := by omega
          exact absurd h3 q
      obtain ⟨a1, a2, a3, a4⟩ := mfst_ok k (s + 1) ⟨x, hx, by omega, h3⟩
      refine ⟨a1, by omega, by omega, fun y hy hT => ?_⟩
      rcases Nat.lt_or_ge s y with z | z
      · exact a4 y z hT
      · obtain rfl : s = y := by omega
        exact absurd hT q
def cS (cd : Nat) (f : Nat → Nat) (n left s : Nat) : Prop := s &&& left = s ∧ s.testBit (mlw left 12 0) = true ∧ aT cd f n s ∧ mMx cd f n (left ^^^ s) + 1 = mMx cd f n left
noncomputable def cI (cd : Nat) (f : Nat → Nat) (n left : Nat) : Nat := mfst (fun s => jD (cS cd f n left s)) 4096 0
noncomputable def cL (cd : Nat) (f : Nat → Nat) (n : Nat) : Nat → Nat
  | 0 => 2 ^ n - 1
  | k + 1 => cL cd f n k ^^^ cI cd f n (cL cd f n k)
noncomputable def cA (cd : Nat) (f : Nat → Nat) (n : Nat) : Nat → Nat
  | 0 => 0
  | k + 1 => cI cd f n (cL cd f n k)
section
variable {cd n : Nat} {f : Nat → Nat}
theorem cS_sum (hc : cd ∈ jcodes) (hf : ∀ j, j < n → f j < god cd) (hg : 0 < god cd) {left s : Nat} (hz : gS cd f n left = 0) (h1 : s &&& left = s) (h2 : gS cd f n s = 0) : gS cd f n (left ^^^ s) = 0 := by
  have h := gS_sub (f := f) hc h1 n hf
  rw [hz, h2, gP_0 hc (gS_lt hc hg _ n hf)] at h
  exact h.symm
theorem cI_ok (hc : cd ∈ jcodes) (hn : n ≤ 12) (hf : ∀ j, j < n → f j < god cd) {left : Nat} (hl : left < 2 ^ n) (h0 : left ≠ 0) (hz : gS cd f n left = 0) : cS cd f n left (cI cd f n left) ∧ ∀ s, cS cd f n left s → cI cd f n left ≤ s := by
  have h12 : 2 ^ n ≤ 2 ^ 12 := Nat.pow_le_pow_right (by omega) hn
  have hlw := mlw_ok (s := left) (by omega) h0
  have hg : 0 < god cd := by have := hf _ (tb_lt hl hlw.2.1); omega
  obtain ⟨h1, h2, h3⟩ := mMx_ok hc hn hf hl hz
  have hex : ∃ s, cS cd f n left s := by
    cases hm : mMx cd f n left with
    | zero => rw [hm] at h1; exact absurd h1 h0
    | succ k =>
      rw [hm] at h1
      obtain ⟨-, a, a1, a2, a3, a4⟩ := h1
      have hxl := xs_ne a2 a1.1
      have hz2 := cS_sum hc hf hg hz a2 a1.2.1
      obtain ⟨b1, b2, b3⟩ := mMx_ok hc hn hf (s := left ^^^ a) (by omega) hz2
      refine ⟨a, a2, a3, a1, ?_⟩
      have c1 := b2 k a4
      have c2 := h2 (mMx cd f n (left ^^^ a) + 1) ⟨h0, a, a1, a2, a3, b1⟩
      omega
  obtain ⟨s, hs⟩ := hex
  have hsl := sub_le hs.1
  obtain ⟨a1, a2, a3, a4⟩ := mfst_ok (T := fun s => jD (cS cd f n left s)) 4096 0 ⟨s, Nat.zero_le _, by omega, jD_t hs⟩
  exact ⟨jD_is.mp a1, fun x hx => a4 x (Nat.zero_le _) (jD_t hx)⟩
theorem cL_ok (hc : cd ∈ jcodes) (hn : n ≤ 12) (hf : ∀ j, j < n → f j < god cd) (hz : gS cd f n (2 ^ n - 1) = 0) : ∀ k, k ≤ mMx cd f n (2 ^ n - 1) → cL cd f n k < 2 ^ n ∧ gS cd f n (cL cd f n k) = 0 ∧ mMx cd f n (cL cd f n k) + k = mMx cd f n (2 ^ n - 1)
  | 0, _ => ⟨by show 2 ^ n - 1 < 2 ^ n; have := Nat.two_pow_pos n; omega, hz, rfl⟩
  | k + 1, hk => by
    obtain ⟨h1, h2, h3⟩ := cL_ok hc hn hf hz k (by omega)
    have h0 : cL cd f n k ≠ 0 := fun z => by
      have h4 := (mMx_ok hc hn hf h1 h2).1
      rw [z] at h4
      have := pT_0 h4
      rw [z] at h3
      omega
    have h12 : 2 ^ n ≤ 2 ^ 12 := Nat.pow_le_pow_right (by omega) hn
    have hlw := mlw_ok (s := cL cd f n k) (by omega) h0
    have hg : 0 < god cd := by have := hf _ (tb_lt h1 hlw.2.1); omega
    obtain ⟨a1, a2, a3, a4⟩ := (cI_ok hc hn hf h1 h0 h2).1
    have hxl := xs_ne a1 a3.1
    refine ⟨?_, ?_, ?_⟩
    · show cL cd f n k ^^^ cI cd f n (cL cd f n k) < 2 ^ n; omega
    · exact cS_sum hc hf hg h2 a1 a3.2.1
    · show mMx cd f n (cL cd f n k ^^^ cI cd f n (cL cd f n k)) + (k + 1) = _; omega
end
theorem xand_0 {s l : Nat} : s ^^^ (s &&& l) = 0 ↔ s &&& l = s := by
  constructor
  · intro h
    apply Nat.eq_of_testBit_eq
    intro j
    have h1 := congrArg (fun z => z.testBit j) h
    simp only [Nat.testBit_xor, Nat.zero_testBit] at h1
    cases q : s.testBit j <;> cases r : (s &&& l).testBit j <;> simp_all
  · intro h
    rw [h, Nat.xor_self]
theorem and_pow0 {s k : Nat} : s &&& 2 ^ k = 0 ↔ s.testBit k = false := by
  constructor
  · intro h
    have h1 := congrArg (fun z => z.testBit k) h
    simp only [Nat.testBit_and, Nat.zero_testBit, Nat.testBit_two_pow] at h1
    simpa using h1
  · intro h
    apply Nat.eq_of_testBit_eq
    intro j
    rw [Nat.testBit_and, Nat.testBit_two_pow, Nat.zero_testBit]
    by_cases z : k = j
    · subst z; rw [h]; rfl
    · rw [decide_eq_false z, Bool.and_false]
theorem nI_subk {k : Nat} (h : 1 ≤ k) : nI k - nI 1 = nI (k - 1) := by
  rw [j_subm]
  obtain ⟨j, rfl⟩ : ∃ j, k = j + 1 := ⟨k - 1, by omega⟩
  rfl
theorem nI_inj {a b : Nat} (ha : a < 2 ^ 31) (hb : b < 2 ^ 31) (h : nI a = nI b) : a = b := by
  have := congrArg Int32.toInt h
  rw [nI_toInt ha, nI_toInt hb] at this
  omega
theorem matom_no {cd n : Nat} {f : Nat → Nat} {i G : Int32} (hc : cd ∈ jcodes) (hn : n ≤ 12) (hf : ∀ j, j < n → f j < god cd) (hG : G = mNo cd f n (2 ^ n - 1) (mMx cd f n (2 ^ n - 1))) (h : ¬ (gS cd f n (2 ^ n - 1) = 0 ∧ jhas i (mMx cd f n (2 ^ n - 1)) = true)) : mIn i (nI 0) (G - nI 1) = false := by
  subst hG
  unfold mNo
  by_cases z : gS cd f n (2 ^ n - 1) = 0
  · have := (mMx_ok hc hn hf (s := 2 ^ n - 1) (by have := Nat.two_pow_pos n; omega) z).2.2
    rw [if_pos z, j_subm, mIn_has (by omega)]
    cases q : jhas i (mMx cd f n (2 ^ n - 1)) with
    | false => rfl
    | true => exact absurd ⟨z, q⟩ h
  · rw [if_neg z]
    unfold mIn
    have h1 : ((-1 : Int32) - nI 1).toInt = -2 := by decide +kernel
    rw [h1, nI_toInt (by omega)]
    exact decide_eq_false (by omega)
