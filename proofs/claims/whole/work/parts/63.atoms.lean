/-! the atoms of the most: the class's order and the model's -/
theorem xs_add : ∀ (N s a : Nat), s < N → a &&& s = a → (s ^^^ a) + a = s
  | 0, s, _, h, _ => absurd h (Nat.not_lt_zero _)
  | N + 1, s, a, h, ha => by
    by_cases z : s = 0
    · subst z
      have := sub_0 ha
      subst this
      rfl
    · obtain ⟨h1, h2⟩ := sub_half ha
      have ih := xs_add N (s / 2) (a / 2) (by omega) h1
      have h3 : (s ^^^ a) / 2 = s / 2 ^^^ a / 2 := Nat.xor_div_two
      have h4 : (s ^^^ a) % 2 = 1 ↔ ¬(s % 2 = 1 ↔ a % 2 = 1) := Nat.xor_mod_two_eq_one
      rw [← h3] at ih
      generalize s ^^^ a = X at ih h4 ⊢
      omega
theorem xs_sum {s a : Nat} (h : a &&& s = a) : (s ^^^ a) + a = s := xs_add (s + 1) s a (Nat.lt_succ_self _) h
theorem jnx_eq {r w : Nat} (hw : w < 4096) (hr : r &&& w = r) (hne : r ≠ w) : jnx r w = w ^^^ (((w ^^^ r) - 1) &&& w) := by
  have h1 := xs_sum hr
  have hrl := sub_le hr
  have h0 : w ^^^ r ≠ 0 := fun z => hne (xs_zero z)
  obtain ⟨c, hc⟩ : ∃ c, w ^^^ r = c + 1 := ⟨(w ^^^ r) - 1, by omega⟩
  unfold jnx
  rw [hc] at h1
  rw [hc, show 2 ^ 32 + r - w = 2 ^ 32 - (c + 1) by omega, Nat.add_sub_cancel]
  apply Nat.eq_of_testBit_eq
  intro j
  rw [Nat.testBit_and, tb_xs, Nat.testBit_and, Nat.testBit_two_pow_sub_succ (by omega)]
  cases q : w.testBit j with
  | false => simp
  | true =>
    have : j < 32 := by
      have := tb_lt (n := 12) (by omega) q
      omega
    rw [decide_eq_true this]
    simp
theorem jnx_ok {r w : Nat} (hw : w < 4096) (hr : r &&& w = r) (hne : r ≠ w) : jnx r w &&& w = jnx r w ∧ r < jnx r w ∧ ∀ q, q &&& w = q → r < q → jnx r w ≤ q := by
  have h0 : w ^^^ r ≠ 0 := fun z => hne (xs_zero z)
  have hp := prev_sub (p := w ^^^ r) (m := w)
  have hlt := prev_lt (m := w) h0
  rw [jnx_eq hw hr hne]
  have h1 := xs_sum hr
  have h2 := xs_sum hp
  refine ⟨xs_sub hp, by omega, fun q hq hrq => ?_⟩
  have h3 := xs_sum hq
  have h4 := prev_le ((w ^^^ r) + 1) (w ^^^ r) w (w ^^^ q) (Nat.lt_succ_self _) (xs_sub hr) (xs_sub hq) (by omega)
  omega
/-- what the class asks of a set within what's left -/
def lC (m0 m1 : Nat → Nat) (s r : Nat) : Prop := m0 (r ||| jlow s) = 0 ∧ m1 (s ^^^ (r ||| jlow s)) + 1 = m1 s
theorem jlm_ok {m0 m1 : Nat → Nat} {s : Nat} (hs : s < 4096) (hw : s ^^^ jlow s < 4096) : ∀ d r, r &&& (s ^^^ jlow s) = r → (s ^^^ jlow s) < d + r → (∃ q, q &&& (s ^^^ jlow s) = q ∧ r ≤ q ∧ lC m0 m1 s q) → ∃ q, q &&& (s ^^^ jlow s) = q ∧ r ≤ q ∧ lC m0 m1 s q ∧ jlm m0 m1 s d r = q ||| jlow s ∧ ∀ p, p &&& (s ^^^ jlow s) = p → r ≤ p → lC m0 m1 s p → q ≤ p
  | 0, r, hr, hd, _ => by have := sub_le hr; omega
  | d + 1, r, hr, hd, ⟨q, q1, q2, q3⟩ => by
    unfold jlm
    by_cases z : lC m0 m1 s r
    · rw [if_pos (show (m0 (r ||| jlow s) = 0 ∧ m1 (s ^^^ (r ||| jlow s)) + 1 = m1 s) from z)]
      exact ⟨r, hr, Nat.le_refl _, z, rfl, fun p _ h _ => h⟩
    · have z2 : r ≠ s ^^^ jlow s := fun w => by
        have h1 := sub_le q1
        obtain rfl : r = q := by omega
        exact z q3
      rw [if_neg (show ¬ (m0 (r ||| jlow s) = 0 ∧ m1 (s ^^^ (r ||| jlow s)) + 1 = m1 s) from z), if_neg z2]
      obtain ⟨n1, n2, n3⟩ := jnx_ok hw hr z2
      have hrq : r < q := by
        rcases Nat.lt_or_ge r q with w | w
        · exact w
        · obtain rfl : r = q := by omega
          exact absurd q3 z
      obtain ⟨p, p1, p2, p3, p4, p5⟩ := jlm_ok hs hw d (jnx r (s ^^^ jlow s)) n1 (by omega) ⟨q, q1, n3 q q1 hrq, q3⟩
      refine ⟨p, p1, by omega, p3, p4, fun t t1 t2 t3 => ?_⟩
      rcases Nat.lt_or_ge r t with w | w
      · exact p5 t t1 (n3 t t1 w) t3
      · obtain rfl : r = t := by omega
        exact absurd t3 z
section
variable {cd n : Nat} {f : Nat → Nat}
theorem lC_cS (hc : cd ∈ jcodes) (hn : n ≤ 12) (hf : ∀ j, j < n → f j < god cd) (hg : 0 < god cd) {m0 m1 : Nat → Nat} (hm0 : ∀ s, s < 2 ^ n → m0 s = gS cd f n s) (h1 : m1 0 = 0) (hM : jMost m0 m1 n (2 ^ n)) {s : Nat} (hs : s < 2 ^ n) (h0 : s ≠ 0) (hz : gS cd f n s = 0) {r : Nat} (hr : r &&& (s ^^^ jlow s) = r) : lC m0 m1 s r ↔ cS cd f n s (r ||| jlow s) := by
  have h12 : 2 ^ n ≤ 4096 := Nat.le_trans (Nat.pow_le_pow_right (by omega) hn) (Nat.le_refl _)
  have hlw := mlw_ok (s := s) (by omega) h0
  have hlp := jlow_pow (s := s) (by omega) h0
  rw [hlp] at hr
  unfold lC cS
  rw [hlp]
  obtain ⟨t, ht⟩ : ∃ t, t = r ||| 2 ^ mlw s 12 0 := ⟨_, rfl⟩
  have t1 : t &&& s = t := by rw [ht]; exact por_sub hlw.2.1 hr
  have t2 : t.testBit (mlw s 12 0) = true := by rw [ht, Nat.testBit_or, Nat.testBit_two_pow, decide_eq_true rfl, Bool.or_true]
  rw [← ht]
  have t0 : t ≠ 0 := fun z => by rw [z, Nat.zero_testBit] at t2; cases t2
  have tl := sub_le t1
  have xl := xs_ne t1 t0
  rw [hm0 t (by omega), most_eq hc hn hf hg hm0 h1 hM hs hz]
  constructor
  · rintro ⟨c1, c2⟩
    have hz2 : gS cd f n (s ^^^ t) = 0 := cS_sum hc hf hg hz t1 c1
    rw [most_eq hc hn hf hg hm0 h1 hM (s := s ^^^ t) (by omega) hz2] at c2
    refine ⟨t1, t2, ?_, c2⟩
    obtain ⟨k, hk⟩ := pT_ex hc hn hf (t + 1) t (Nat.lt_succ_self _) (by omega) c1
    have hku := pT_uT k t hk
    have hmx := mMx_ok hc hn hf (s := s ^^^ t) (by omega) hz2
    have hadd := uT_add k t s hku t1 (pT_uT _ _ hmx.1)
    have hle := (mMx_ok hc hn hf hs hz).2.1 _ (uT_pT _ s (by omega) hadd)
    have hk1 : k ≤ 1 := by omega
    cases k with
    | zero => exact absurd hku t0
    | succ k =>
      obtain rfl : k = 0 := by omega
      obtain ⟨a, a1, a2, a3⟩ := hku
      have : a = t := xs_zero a3
      rw [← this]
      exact a1
  · rintro ⟨-, -, c1, c2⟩
    have hz2 : gS cd f n (s ^^^ t) = 0 := cS_sum hc hf hg hz t1 c1.2.1
    rw [most_eq hc hn hf hg hm0 h1 hM (s := s ^^^ t) (by omega) hz2]
    exact ⟨c1.2.1, c2⟩
theorem jlm_cI (hc : cd ∈ jcodes) (hn : n ≤ 12) (hf : ∀ j, j < n → f j < god cd) (hg : 0 < god cd) {m0 m1 : Nat → Nat} (hm0 : ∀ s, s < 2 ^ n → m0 s = gS cd f n s) (h1 : m1 0 = 0) (hM : jMost m0 m1 n (2 ^ n)) {s : Nat} (hs : s < 2 ^ n) (h0 : s ≠ 0) (hz : gS cd f n s = 0) : jlm m0 m1 s 4096 0 = cI cd f n s := by
  have h12 : 2 ^ n ≤ 4096 := Nat.le_trans (Nat.pow_le_pow_right (by omega) hn) (Nat.le_refl _)
  have hlw := mlw_ok (s := s) (by omega) h0
  have hlp := jlow_pow (s := s) (by omega) h0
  have hw := jot_lt (l := s) (by omega)
  obtain ⟨c1, c2⟩ := cI_ok hc hn hf hs h0 hz
  have key : ∀ t, cS cd f n s t → ∃ r, r &&& (s ^^^ jlow s) = r ∧ t = r ||| jlow s ∧ t = r + jlow s := by
    rintro t ⟨t1, t2, -, -⟩
    have p1 : 2 ^ mlw s 12 0 &&& t = 2 ^ mlw s 12 0 := pow_sub t2
    have p3 : (t ^^^ 2 ^ mlw s 12 0) &&& (s ^^^ 2 ^ mlw s 12 0) = t ^^^ 2 ^ mlw s 12 0 := xs_mono p1 t1
    have p4 := por_xor (por_tb hlw.2.1 p3)
    refine ⟨t ^^^ 2 ^ mlw s 12 0, by rw [hlp]; exact p3, ?_, ?_⟩
    · rw [hlp, p4, Nat.xor_assoc, Nat.xor_self, Nat.xor_zero]
    · rw [hlp]; exact (xs_sum p1).symm
  obtain ⟨r, r1, r2, r3⟩ := key _ c1
  obtain ⟨q, q1, q2, q3, q4, q5⟩ := jlm_ok (m0 := m0) (m1 := m1) (s := s) (by omega) hw 4096 0 (Nat.zero_and _) (by omega) ⟨r, r1, Nat.zero_le _, (lC_cS hc hn hf hg hm0 h1 hM hs h0 hz r1).mpr (by rw [← r2]; exact c1)⟩
  rw [q4]
  have d1 := (lC_cS hc hn hf hg hm0 h1 hM hs h0 hz q1).mp q3
  have d2 := c2 _ d1
  have d3 := q5 r r1 (Nat.zero_le _) ((lC_cS hc hn hf hg hm0 h1 hM hs h0 hz r1).mpr (by rw [← r2]; exact c1))
  obtain ⟨u, u1, u2, u3⟩ := key _ d1
  have d4 : q ||| jlow s = q + jlow s := by
    rw [hlp]
    rw [hlp] at q1
    have hqt := por_tb hlw.2.1 q1
    have e1 : 2 ^ mlw s 12 0 &&& (q ^^^ 2 ^ mlw s 12 0) = 2 ^ mlw s 12 0 := pow_sub (by rw [tb_xs, hqt, Nat.testBit_two_pow, decide_eq_true rfl]; rfl)
    have e2 := xs_sum e1
    rw [Nat.xor_assoc, Nat.xor_self, Nat.xor_zero] at e2
    rw [por_xor hqt]
    exact e2.symm
  omega
theorem jam_cA (hc : cd ∈ jcodes) (hn : n ≤ 12) (hf : ∀ j, j < n → f j < god cd) (hg : 0 < god cd) {m0 m1 : Nat → Nat} (hm0 : ∀ s, s < 2 ^ n → m0 s = gS cd f n s) (h1 : m1 0 = 0) (hM : jMost m0 m1 n (2 ^ n)) (hz : gS cd f n (2 ^ n - 1) = 0) : ∀ d k v, k + d < mMx cd f n (2 ^ n - 1) → jam2 m0 m1 (d + 1) (cL cd f n k) v = nI (cA cd f n (k + d + 1))
  | d, k, v, hk => by
    obtain ⟨c1, c2, c3⟩ := cL_ok hc hn hf hz k (by omega)
    have hl0 : cL cd f n k ≠ 0 := fun z => by
      have hm := (mMx_ok hc hn hf c1 c2).1
      rw [z] at hm c3
      have := pT_0 hm
      omega
    unfold jam2
    rw [if_pos (by omega), jlm_cI hc hn hf hg hm0 h1 hM c1 hl0 c2]
    cases d with
    | zero => rfl
    | succ d =>
      have := jam_cA hc hn hf hg hm0 h1 hM hz d (k + 1) (nI (cI cd f n (cL cd f n k))) (by omega)
      rw [show k + (d + 1) + 1 = k + 1 + d + 1 by omega]
      exact this
end
