/-! disjoint sets of sum nought: the class's most against the model's most -/
theorem log2_all : ((List.range 4096).all fun s => decide (s = 0) || (s.testBit (Nat.log2 s) && decide (s - 2 ^ Nat.log2 s = s ^^^ 2 ^ Nat.log2 s))) = true := by decide +kernel
theorem log2_bit {s : Nat} (h : s < 4096) (h0 : 0 < s) : s.testBit (Nat.log2 s) = true ∧ s - 2 ^ Nat.log2 s = s ^^^ 2 ^ Nat.log2 s := by
  have := List.all_eq_true.mp log2_all s (List.mem_range.mpr h)
  rw [Bool.or_eq_true, Bool.and_eq_true, decide_eq_true_eq, decide_eq_true_eq] at this
  rcases this with h1 | h1
  · omega
  · exact h1
theorem xs_swap {s a b : Nat} : (s ^^^ a) ^^^ b = (s ^^^ b) ^^^ a := by rw [Nat.xor_assoc, Nat.xor_assoc, Nat.xor_comm a b]
theorem xs_self {s : Nat} : s ^^^ s = 0 := Nat.xor_self s
theorem in_xs {s a j : Nat} (h : a &&& s = a) : (s ^^^ a).testBit j = true ↔ s.testBit j = true ∧ a.testBit j = false := by
  rw [tb_xs]
  have h1 : a.testBit j = true → s.testBit j = true := fun q => sub_tb h q
  cases q : s.testBit j <;> cases r : a.testBit j <;> simp_all
theorem xs_mono {s t a : Nat} (h : a &&& s = a) (h2 : s &&& t = s) : (s ^^^ a) &&& (t ^^^ a) = s ^^^ a := sub_of fun j hj =>
  (in_xs (sub_trans h h2)).mpr ⟨sub_tb h2 ((in_xs h).mp hj).1, ((in_xs h).mp hj).2⟩
theorem sub_xs1 {s a b : Nat} (h : a &&& s = a) (h2 : b &&& (s ^^^ a) = b) : b &&& s = b := sub_trans h2 (xs_sub h)
theorem sub_xs2 {s a b : Nat} (h : a &&& s = a) (h2 : b &&& (s ^^^ a) = b) : a &&& (s ^^^ b) = a := sub_of fun j hj =>
  (in_xs (sub_xs1 h h2)).mpr ⟨sub_tb h hj, by
    cases q : b.testBit j with
    | false => rfl
    | true => have := ((in_xs h).mp (sub_tb h2 q)).2; rw [hj] at this; cases this⟩
theorem xs_zero {s a : Nat} (h : s ^^^ a = 0) : a = s := by
  apply Nat.eq_of_testBit_eq
  intro j
  have h3 := congrArg (fun z => z.testBit j) h
  simp only [tb_xs, Nat.zero_testBit] at h3
  cases q : s.testBit j <;> cases r : a.testBit j <;> simp_all
theorem pow_sub {s k : Nat} (h : s.testBit k = true) : 2 ^ k &&& s = 2 ^ k := by rw [Nat.and_comm]; exact and_pow h
/-- k disjoint sets of sum nought in s -/
def kT (cd : Nat) (f : Nat → Nat) (n : Nat) : Nat → Nat → Prop
  | 0, _ => True
  | k + 1, s => ∃ a, a ≠ 0 ∧ a &&& s = a ∧ gS cd f n a = 0 ∧ kT cd f n k (s ^^^ a)
/-- s parted into k atoms, in any order -/
def uT (cd : Nat) (f : Nat → Nat) (n : Nat) : Nat → Nat → Prop
  | 0, s => s = 0
  | k + 1, s => ∃ a, aT cd f n a ∧ a &&& s = a ∧ uT cd f n k (s ^^^ a)
section
variable {cd n : Nat} {f : Nat → Nat}
theorem pT_uT : ∀ k s, pT cd f n k s → uT cd f n k s
  | 0, _, h => h
  | k + 1, s, ⟨_, a, h1, h2, _, h4⟩ => ⟨a, h1, h2, pT_uT k _ h4⟩
theorem uT_has : ∀ k s p, uT cd f n (k + 1) s → s.testBit p = true → ∃ a, aT cd f n a ∧ a &&& s = a ∧ a.testBit p = true ∧ uT cd f n k (s ^^^ a)
  | k, s, p, ⟨a, h1, h2, h3⟩, hp => by
    cases q : a.testBit p with
    | true => exact ⟨a, h1, h2, q, h3⟩
    | false =>
      have hr : (s ^^^ a).testBit p = true := (in_xs h2).mpr ⟨hp, q⟩
      cases k with
      | zero =>
        have hz : s ^^^ a = 0 := h3
        rw [hz, Nat.zero_testBit] at hr
        cases hr
      | succ k =>
        obtain ⟨b, b1, b2, b3, b4⟩ := uT_has k (s ^^^ a) p h3 hr
        exact ⟨b, b1, sub_xs1 h2 b2, b3, a, h1, sub_xs2 h2 b2, by rw [xs_swap]; exact b4⟩
theorem uT_0 {k : Nat} (h : uT cd f n k 0) : k = 0 := by
  cases k with
  | zero => rfl
  | succ k =>
    obtain ⟨a, h1, h2, _⟩ := h
    exact absurd (sub_0 h2) h1.1
theorem uT_pT : ∀ k s, s < 4096 → uT cd f n k s → pT cd f n k s
  | 0, _, _, h => h
  | k + 1, s, hs, h => by
    have h0 : s ≠ 0 := fun z => by subst z; exact absurd (uT_0 h) (Nat.succ_ne_zero k)
    obtain ⟨a, h1, h2, h3, h4⟩ := uT_has k s _ h (mlw_ok (s := s) hs h0).2.1
    exact ⟨h0, a, h1, h2, h3, uT_pT k _ (Nat.lt_trans (xs_ne h2 h1.1) hs) h4⟩
theorem uT_add {k : Nat} : ∀ j a s, uT cd f n j a → a &&& s = a → uT cd f n k (s ^^^ a) → uT cd f n (j + k) s
  | 0, a, s, h, _, h3 => by
    have hz : a = 0 := h
    subst hz
    rw [Nat.xor_zero] at h3
    rw [Nat.zero_add]
    exact h3
  | j + 1, a, s, ⟨t, h1, h2, h3⟩, h4, h5 => by
    rw [show j + 1 + k = (j + k) + 1 by omega]
    refine ⟨t, h1, sub_trans h2 h4, uT_add j (a ^^^ t) (s ^^^ t) h3 (xs_mono h2 h4) ?_⟩
    rw [show (s ^^^ t) ^^^ (a ^^^ t) = s ^^^ a by rw [Nat.xor_assoc, Nat.xor_comm a t, ← Nat.xor_assoc t t a, Nat.xor_self, Nat.zero_xor]]
    exact h5
theorem kT_mono : ∀ k s t, s &&& t = s → kT cd f n k s → kT cd f n k t
  | 0, _, _, _, _ => trivial
  | k + 1, s, t, h, ⟨a, h1, h2, h3, h4⟩ => ⟨a, h1, sub_trans h2 h, h3, kT_mono k _ _ (xs_mono h2 h) h4⟩
theorem gS_rest (hc : cd ∈ jcodes) (hf : ∀ j, j < n → f j < god cd) (hg : 0 < god cd) {s a : Nat} (ha : a &&& s = a) (h : gS cd f n a = 0) : gS cd f n s = gS cd f n (s ^^^ a) := by
  rw [gS_sub hc ha n hf, h, gP_0 hc (gS_lt hc hg _ n hf)]
theorem uT_kT : ∀ k s, uT cd f n k s → kT cd f n k s
  | 0, _, _ => trivial
  | k + 1, s, ⟨a, h1, h2, h3⟩ => ⟨a, h1.1, h2, h1.2.1, uT_kT k _ h3⟩
theorem kT_uT (hc : cd ∈ jcodes) (hn : n ≤ 12) (hf : ∀ j, j < n → f j < god cd) (hg : 0 < god cd) : ∀ k s, s < 2 ^ n → gS cd f n s = 0 → kT cd f n k s → ∃ m, k ≤ m ∧ uT cd f n m s
  | 0, s, hs, hz, _ => by
    obtain ⟨m, hm⟩ := pT_ex hc hn hf (s + 1) s (Nat.lt_succ_self _) hs hz
    exact ⟨m, Nat.zero_le _, pT_uT m s hm⟩
  | k + 1, s, hs, hz, ⟨a, h1, h2, h3, h4⟩ => by
    have hz2 : gS cd f n (s ^^^ a) = 0 := by rw [← gS_rest hc hf hg h2 h3]; exact hz
    obtain ⟨m, hm, hu⟩ := kT_uT hc hn hf hg k (s ^^^ a) (Nat.lt_trans (xs_ne h2 h1) hs) hz2 h4
    obtain ⟨j, hj⟩ := pT_ex hc hn hf (a + 1) a (Nat.lt_succ_self _) (Nat.lt_of_le_of_lt (sub_le h2) hs) h3
    have hju := pT_uT j a hj
    have hj0 : j ≠ 0 := fun z => by subst z; exact h1 hju
    exact ⟨j + m, by omega, uT_add j a s hju h2 hu⟩
theorem kT_rest (hc : cd ∈ jcodes) (hf : ∀ j, j < n → f j < god cd) (hg : 0 < god cd) : ∀ k s t, t &&& s = t → t ≠ s → gS cd f n s = 0 → kT cd f n k t → kT cd f n (k + 1) s
  | 0, s, t, h, hne, hz, _ => ⟨s, fun z => by subst z; exact hne (sub_0 h), Nat.and_self s, hz, trivial⟩
  | k + 1, s, t, h, hne, hz, ⟨a, h1, h2, h3, h4⟩ => by
    refine ⟨a, h1, sub_trans h2 h, h3, kT_rest hc hf hg k (s ^^^ a) (t ^^^ a) (xs_mono h2 h) (fun z => hne ?_) ?_ h4⟩
    · have := congrArg (fun z => z ^^^ a) z
      simp only [Nat.xor_assoc, Nat.xor_self, Nat.xor_zero] at this
      exact this
    · rw [← gS_rest hc hf hg (sub_trans h2 h) h3]; exact hz
theorem kT_drop : ∀ k s j, s.testBit j = true → kT cd f n (k + 1) s → kT cd f n k (s ^^^ 2 ^ j)
  | 0, _, _, _, _ => trivial
  | k + 1, s, j, hj, ⟨a, h1, h2, h3, h4⟩ => by
    cases q : a.testBit j with
    | true =>
      refine kT_mono (k + 1) _ _ (sub_of fun i hi => ?_) h4
      have h5 := (in_xs h2).mp hi
      refine (in_xs (pow_sub hj)).mpr ⟨h5.1, ?_⟩
      rw [Nat.testBit_two_pow]
      refine decide_eq_false fun z => ?_
      subst z
      rw [q] at h5
      exact absurd h5.2 (by decide)
    | false => exact ⟨a, h1, sub_xor h2 q, h3, by rw [xs_swap]; exact kT_drop k (s ^^^ a) j ((in_xs h2).mpr ⟨hj, q⟩) h4⟩
theorem kT_out (hc : cd ∈ jcodes) (hf : ∀ j, j < n → f j < god cd) (hg : 0 < god cd) : ∀ k s, s < 2 ^ n → gS cd f n s ≠ 0 → kT cd f n k s → ∃ j, j < n ∧ s.testBit j = true ∧ kT cd f n k (s ^^^ 2 ^ j)
  | 0, s, hs, hz, _ => by
    apply Classical.byContradiction
    intro hno
    apply hz
    have : s = 0 := by
      apply Nat.eq_of_testBit_eq
      intro j
      rw [Nat.zero_testBit]
      cases q : s.testBit j with
      | false => rfl
      | true => exact absurd ⟨j, tb_lt hs q, q, trivial⟩ hno
    subst this
    exact gS_z
  | k + 1, s, hs, hz, ⟨a, h1, h2, h3, h4⟩ => by
    obtain ⟨j, j1, j2, j3⟩ := kT_out hc hf hg k (s ^^^ a) (Nat.lt_trans (xs_ne h2 h1) hs) (by rw [← gS_rest hc hf hg h2 h3]; exact hz) h4
    have j4 := (in_xs h2).mp j2
    exact ⟨j, j1, j4.1, a, h1, sub_xor h2 j4.2, h3, by rw [xs_swap]; exact j3⟩
theorem jmwo_ge {m : Nat → Nat} {s j : Nat} (hj : s.testBit j = true) : ∀ k, j < k → m (s ^^^ 2 ^ j) ≤ jmwo m s k
  | 0, h => absurd h (Nat.not_lt_zero _)
  | k + 1, h => by
    unfold jmwo
    by_cases z : j = k
    · subst z
      rw [if_pos hj]
      exact Nat.le_max_right _ _
    · have := jmwo_ge (m := m) hj k (by omega)
      split
      · exact Nat.le_trans this (Nat.le_max_left _ _)
      · exact this
theorem jmwo_at {m : Nat → Nat} {s : Nat} : ∀ k, jmwo m s k = 0 ∨ ∃ j, j < k ∧ s.testBit j = true ∧ jmwo m s k = m (s ^^^ 2 ^ j)
  | 0 => Or.inl rfl
  | k + 1 => by
    unfold jmwo
    have ih := jmwo_at (m := m) (s := s) k
    split
    · rename_i q
      rcases Nat.le_total (jmwo m s k) (m (s ^^^ 2 ^ k)) with w | w
      · exact Or.inr ⟨k, by omega, q, Nat.max_eq_right w⟩
      · rw [Nat.max_eq_left w]
        rcases ih with z | ⟨j, h1, h2, h3⟩
        · exact Or.inl z
        · exact Or.inr ⟨j, by omega, h2, h3⟩
    · rcases ih with z | ⟨j, h1, h2, h3⟩
      · exact Or.inl z
      · exact Or.inr ⟨j, by omega, h2, h3⟩
/-- the class's table is the most of disjoint sets of sum nought -/
theorem most_kT (hc : cd ∈ jcodes) (hn : n ≤ 12) (hf : ∀ j, j < n → f j < god cd) (hg : 0 < god cd) {m0 m1 : Nat → Nat} (hm0 : ∀ s, s < 2 ^ n → m0 s = gS cd f n s) (h1 : m1 0 = 0) (hM : jMost m0 m1 n (2 ^ n)) : ∀ N s, s < N → s < 2 ^ n → kT cd f n (m1 s) s ∧ ∀ k, kT cd f n k s → k ≤ m1 s
  | 0, s, h, _ => absurd h (Nat.not_lt_zero _)
  | N + 1, s, h, hs => by
    have h12 : 2 ^ n ≤ 4096 := Nat.le_trans (Nat.pow_le_pow_right (by omega) hn) (Nat.le_refl _)
    by_cases h0 : s = 0
    · subst h0
      rw [h1]
      refine ⟨trivial, fun k hk => ?_⟩
      cases k with
      | zero => exact Nat.le_refl _
      | succ k =>
        obtain ⟨a, a1, a2, _⟩ := hk
        exact absurd (sub_0 a2) a1
    · have hst := hM s (by omega) hs
      by_cases z : gS cd f n s = 0
      · rw [if_pos (by rw [hm0 s hs]; exact z)] at hst
        obtain ⟨b1, b2⟩ := log2_bit (s := s) (by omega) (by omega)
        rw [b2] at hst
        have hlt := xs_ne (pow_sub b1) (Nat.ne_of_gt (Nat.two_pow_pos _))
        obtain ⟨i1, i2⟩ := most_kT hc hn hf hg hm0 h1 hM N (s ^^^ 2 ^ Nat.log2 s) (by omega) (by omega)
        rw [hst]
        refine ⟨kT_rest hc hf hg _ s _ (xor_sub b1) (by omega) z i1, fun k hk => ?_⟩
        cases k with
        | zero => exact Nat.zero_le _
        | succ k => exact Nat.succ_le_succ (i2 k (kT_drop k s _ b1 hk))
      · rw [if_neg (by rw [hm0 s hs]; exact z)] at hst
        rw [hst]
        refine ⟨?_, fun k hk => ?_⟩
        · rcases jmwo_at (m := m1) (s := s) n with w | ⟨j, j1, j2, j3⟩
          · rw [w]; trivial
          · have hlt := xs_ne (pow_sub j2) (Nat.ne_of_gt (Nat.two_pow_pos _))
            rw [j3]
            exact kT_mono _ _ _ (xor_sub j2) (most_kT hc hn hf hg hm0 h1 hM N (s ^^^ 2 ^ j) (by omega) (by omega)).1
        · obtain ⟨j, j1, j2, j3⟩ := kT_out hc hf hg k s hs z hk
          have hlt := xs_ne (pow_sub j2) (Nat.ne_of_gt (Nat.two_pow_pos _))
          exact Nat.le_trans ((most_kT hc hn hf hg hm0 h1 hM N (s ^^^ 2 ^ j) (by omega) (by omega)).2 k j3) (jmwo_ge j2 n j1)
theorem most_eq (hc : cd ∈ jcodes) (hn : n ≤ 12) (hf : ∀ j, j < n → f j < god cd) (hg : 0 < god cd) {m0 m1 : Nat → Nat} (hm0 : ∀ s, s < 2 ^ n → m0 s = gS cd f n s) (h1 : m1 0 = 0) (hM : jMost m0 m1 n (2 ^ n)) {s : Nat} (hs : s < 2 ^ n) (hz : gS cd f n s = 0) : m1 s = mMx cd f n s := by
  have h12 : 2 ^ n ≤ 4096 := Nat.le_trans (Nat.pow_le_pow_right (by omega) hn) (Nat.le_refl _)
  obtain ⟨k1, k2⟩ := most_kT hc hn hf hg hm0 h1 hM (s + 1) s (Nat.lt_succ_self _) hs
  obtain ⟨x1, x2, _⟩ := mMx_ok hc hn hf hs hz
  obtain ⟨m, m1', m2⟩ := kT_uT hc hn hf hg _ s hs hz k1
  have a := x2 m (uT_pT m s (by omega) m2)
  have b := k2 _ (uT_kT _ s (pT_uT _ s x1))
  omega
end
