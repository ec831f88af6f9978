/-! the fewest atoms: the class's taking away against the model's least -/
theorem mlw_all : ((List.range 4096).all fun s => (List.range (mlw s 12 0)).all fun j => !s.testBit j) = true := by decide +kernel
theorem mlw_lst {s : Nat} (h : s < 4096) : ∀ j, j < mlw s 12 0 → s.testBit j = false := fun j hj => by
  have := List.all_eq_true.mp (List.all_eq_true.mp mlw_all s (List.mem_range.mpr h)) j (List.mem_range.mpr hj)
  cases q : s.testBit j with
  | false => rfl
  | true => rw [q] at this; cases this
section
variable {cd n s : Nat} {f : Nat → Nat} {m0 m1 : Nat → Nat}
theorem jhle_is : jhle f s n = true ↔ ∀ p, p < n → s.testBit p = true → ∀ o, o < n → p < o → s.testBit o = false → f o ≠ f p :=
  ⟨fun h => @of_decide_eq_true _ (Classical.propDecidable _) h, fun h => @decide_eq_true _ (Classical.propDecidable _) h⟩
theorem cv_up {y a : Nat} : ∀ b, a ≤ b → cv f s y a ≤ cv f s y b
  | 0, h => by obtain rfl : a = 0 := by omega
               exact Nat.le_refl _
  | b + 1, h => by
    by_cases z : a = b + 1
    · subst z; exact Nat.le_refl _
    · have := cv_up (y := y) (a := a) b (by omega)
      show _ ≤ cv f s y b + _
      omega
theorem cv_pos {j : Nat} (q : s.testBit j = true) : ∀ k, j < k → 0 < cv f s (f j) k
  | 0, h => absurd h (Nat.not_lt_zero _)
  | k + 1, h => by
    unfold cv
    by_cases w : j = k
    · subst w; rw [if_pos ⟨q, rfl⟩]; omega
    · have := cv_pos q k (by omega); omega
theorem cv_none {y : Nat} : ∀ k, (∀ j, j < k → s.testBit j = false) → cv f s y k = 0
  | 0, _ => rfl
  | k + 1, h => by
    unfold cv
    rw [cv_none k (fun j hj => h j (by omega)), if_neg (fun w => by rw [h k (by omega)] at w; cases w.1)]
/-- of equal elements the first ones are as good -/
theorem greedy (hc : cd ∈ jcodes) (hn : n ≤ 12) (hg : 0 < god cd) (hf : ∀ j, j < n → f j < god cd) (hs : s < 2 ^ n) (h0 : s ≠ 0) (hh : jhle f s n = true) {m : Nat} (hu : uT cd f n (m + 1) s) : ∃ t, aT cd f n t ∧ t &&& s = t ∧ t.testBit (mlw s 12 0) = true ∧ jhle f (s ^^^ t) n = true ∧ uT cd f n m (s ^^^ t) := by
  have h12 : 2 ^ n ≤ 4096 := Nat.le_trans (Nat.pow_le_pow_right (by omega) hn) (Nat.le_refl _)
  have hlw := mlw_ok (s := s) (by omega) h0
  have hpn := tb_lt hs hlw.2.1
  obtain ⟨a, a1, a2, a3, a4⟩ := uT_has m s _ hu hlw.2.1
  obtain ⟨t, ht⟩ : ∃ t, t = tk f s (fun y => cv f a y n) n := ⟨_, rfl⟩
  have hle : ∀ y, cv f a y n ≤ cv f s y n := fun y => cv_le a2 y n
  have hcv : ∀ y, cv f t y n = cv f a y n := fun y => by rw [ht]; exact tk_at (c := fun y => cv f a y n) hle y
  have hts : t &&& s = t := by rw [ht]; exact tk_sub n
  have hal := sub_le a2
  have htl := sub_le hts
  have l1 := sub_le (xs_sub a2)
  have l2 := sub_le (xs_sub hts)
  refine ⟨t, aT_same hc hg hf (s := a) (by omega) (by omega) (fun y => (hcv y).symm) a1, hts, ?_, ?_, uT_same hc hg hf m (s ^^^ a) (s ^^^ t) (by omega) (by omega) (fun y => ?_) a4⟩
  · rw [ht]
    refine (tk_tb _ n).mpr ⟨hpn, hlw.2.1, ?_⟩
    have e1 : cv f s (f (mlw s 12 0)) (mlw s 12 0) = 0 := cv_none _ (mlw_lst (by omega))
    have e2 := cv_pos (f := f) a3 n hpn
    show cv f s (f (mlw s 12 0)) (mlw s 12 0) < cv f a (f (mlw s 12 0)) n
    omega
  · refine jhle_is.mpr fun p hp hps o ho hpo hos hfo => ?_
    have hp2 := (in_xs hts).mp hps
    cases q : s.testBit o with
    | false => exact jhle_is.mp hh p hp hp2.1 o ho hpo q hfo
    | true =>
      have hot : t.testBit o = true := by
        cases r : t.testBit o with
        | true => rfl
        | false =>
          have := (in_xs hts).mpr ⟨q, r⟩
          rw [hos] at this
          cases this
      have h1 := ((tk_tb (f := f) (s := s) (c := fun y => cv f a y n) o n).mp (by rw [← ht]; exact hot)).2.2
      have h2 : ¬ cv f s (f p) p < cv f a (f p) n := fun w => by
        have := (tk_tb (f := f) (s := s) (c := fun y => cv f a y n) p n).mpr ⟨hp, hp2.1, w⟩
        rw [← ht, hp2.2] at this
        cases this
      have h3 := cv_up (f := f) (s := s) (y := f p) (a := p) o (by omega)
      rw [hfo] at h1
      have h4 : cv f s (f p) o < cv f a (f p) n := h1
      omega
  · have c1 := cv_xs (f := f) a2 y n
    have c2 := cv_xs (f := f) hts y n
    have c4 := hcv y
    omega
theorem jia_aT (hc : cd ∈ jcodes) (hn : n ≤ 12) (hf : ∀ j, j < n → f j < god cd) (hg : 0 < god cd) (hm0 : ∀ s, s < 2 ^ n → m0 s = gS cd f n s) (h1 : m1 0 = 0) (hM : jMost m0 m1 n (2 ^ n)) (hs : s < 2 ^ n) : jia m0 m1 s = true ↔ aT cd f n s := by
  unfold jia
  rw [Bool.and_eq_true, decide_eq_true_eq, decide_eq_true_eq, hm0 s hs]
  constructor
  · rintro ⟨z, h⟩
    rw [most_eq hc hn hf hg hm0 h1 hM hs z] at h
    have hm := pT_uT _ s (mMx_ok hc hn hf hs z).1
    rw [h] at hm
    obtain ⟨a, a1, a2, a3⟩ := hm
    have : a = s := xs_zero a3
    rw [← this]
    exact a1
  · intro ha
    refine ⟨ha.2.1, ?_⟩
    rw [most_eq hc hn hf hg hm0 h1 hM hs ha.2.1]
    have hm := pT_uT _ s (mMx_ok hc hn hf hs ha.2.1).1
    cases q : mMx cd f n s with
    | zero => rw [q] at hm; exact absurd hm ha.1
    | succ k =>
      rw [q] at hm
      obtain ⟨a, a1, a2, a3⟩ := hm
      have e1 := ha.2.2 a a1.1 a2 a1.2.1
      rw [e1, Nat.xor_self] at a3
      rw [uT_0 a3]
/-- what one set's taking away does -/
theorem jta_ok (hs : s < 4096) (hw : s ^^^ jlow s < 4096) (hlt : ∀ r, r &&& (s ^^^ jlow s) = r → s ^^^ (r ||| jlow s) < s) : ∀ d r T, r &&& (s ^^^ jlow s) = r → (s ^^^ jlow s) < d + r →
    (∀ u, jta m0 m1 s d r T u ≤ T u) ∧ (∀ q, q &&& (s ^^^ jlow s) = q → r ≤ q → jia m0 m1 (q ||| jlow s) = true → jta m0 m1 s d r T (s ^^^ (q ||| jlow s)) ≤ T s + 1) ∧ (∀ u, jta m0 m1 s d r T u = T u ∨ ∃ q, q &&& (s ^^^ jlow s) = q ∧ jia m0 m1 (q ||| jlow s) = true ∧ u = s ^^^ (q ||| jlow s) ∧ jta m0 m1 s d r T u = T s + 1)
  | 0, r, _, hr, hd => by have := sub_le hr; omega
  | d + 1, r, T, hr, hd => by
    obtain ⟨T2, hT2⟩ : ∃ T2, T2 = jta1 m0 m1 s r T := ⟨_, rfl⟩
    have hx := hlt r hr
    have a1 : ∀ u, T2 u ≤ T u := fun u => by
      rw [hT2]
      unfold jta1
      split
      · unfold va_up
        split
        · rename_i z; rw [z]; exact Nat.min_le_left _ _
        · exact Nat.le_refl _
      · exact Nat.le_refl _
    have a2 : jia m0 m1 (r ||| jlow s) = true → T2 (s ^^^ (r ||| jlow s)) ≤ T s + 1 := fun q => by
      rw [hT2, jta_1 q hx, uq_at]
      exact Nat.min_le_right _ _
    have a3 : ∀ u, T2 u = T u ∨ (jia m0 m1 (r ||| jlow s) = true ∧ u = s ^^^ (r ||| jlow s) ∧ T2 u = T s + 1) := fun u => by
      rw [hT2]
      unfold jta1
      by_cases q : jia m0 m1 (r ||| jlow s) = true ∧ s ^^^ (r ||| jlow s) < s
      · rw [if_pos q]
        by_cases z : u = s ^^^ (r ||| jlow s)
        · rw [z, uq_at]
          rcases Nat.le_total (T (s ^^^ (r ||| jlow s))) (T s + 1) with w | w
          · exact Or.inl (Nat.min_eq_left w)
          · exact Or.inr ⟨q.1, rfl, Nat.min_eq_right w⟩
        · exact Or.inl (uq_ne z)
      · rw [if_neg q]; exact Or.inl rfl
    have a4 : T2 s = T s := by
      rcases a3 s with z | ⟨-, z, -⟩
      · exact z
      · omega
    unfold jta
    rw [← hT2]
    by_cases z : r = s ^^^ jlow s
    · rw [if_pos z]
      refine ⟨a1, fun q q1 q2 q3 => ?_, fun u => ?_⟩
      · have := sub_le q1
        obtain rfl : r = q := by omega
        exact a2 q3
      · rcases a3 u with w | ⟨w1, w2, w3⟩
        · exact Or.inl w
        · exact Or.inr ⟨r, hr, w1, w2, w3⟩
    · rw [if_neg z]
      obtain ⟨n1, n2, n3⟩ := jnx_ok hw hr z
      obtain ⟨i1, i2, i3⟩ := jta_ok hs hw hlt d (jnx r (s ^^^ jlow s)) T2 n1 (by omega)
      rw [a4] at i2 i3
      refine ⟨fun u => Nat.le_trans (i1 u) (a1 u), fun q q1 q2 q3 => ?_, fun u => ?_⟩
      · rcases Nat.lt_or_ge r q with w | w
        · exact i2 q q1 (n3 q q1 w) q3
        · obtain rfl : r = q := by omega
          exact Nat.le_trans (i1 _) (a2 q3)
      · rcases i3 u with w | w
        · rw [w]
          rcases a3 u with v | ⟨v1, v2, v3⟩
          · exact Or.inl v
          · exact Or.inr ⟨r, hr, v1, v2, v3⟩
        · exact Or.inr w
/-- the sets within s that have its least place, and their rests -/
theorem low_ok (hs : s < 4096) (h0 : s ≠ 0) {r : Nat} (hr : r &&& (s ^^^ jlow s) = r) : (r ||| jlow s) &&& s = r ||| jlow s ∧ r ||| jlow s ≠ 0 ∧ s ^^^ (r ||| jlow s) < s := by
  have hlw := mlw_ok hs h0
  rw [jlow_pow hs h0] at hr ⊢
  have t1 := por_sub hlw.2.1 hr
  have t0 : r ||| 2 ^ mlw s 12 0 ≠ 0 := fun z => by
    have := congrArg (fun w => w.testBit (mlw s 12 0)) z
    simp only [Nat.testBit_or, Nat.testBit_two_pow, Nat.zero_testBit] at this
    simp at this
  exact ⟨t1, t0, xs_ne t1 t0⟩
theorem low_at (hs : s < 4096) (h0 : s ≠ 0) {t : Nat} (ht : t &&& s = t) (hl : t.testBit (mlw s 12 0) = true) : (t ^^^ jlow s) &&& (s ^^^ jlow s) = t ^^^ jlow s ∧ (t ^^^ jlow s) ||| jlow s = t := by
  have hlw := mlw_ok hs h0
  rw [jlow_pow hs h0]
  have p3 : (t ^^^ 2 ^ mlw s 12 0) &&& (s ^^^ 2 ^ mlw s 12 0) = t ^^^ 2 ^ mlw s 12 0 := xs_mono (pow_sub hl) ht
  exact ⟨p3, by rw [por_xor (por_tb hlw.2.1 p3), Nat.xor_assoc, Nat.xor_self, Nat.xor_zero]⟩
theorem jfl_comp (hc : cd ∈ jcodes) (hn : n ≤ 12) (hf : ∀ j, j < n → f j < god cd) (hg : 0 < god cd) (hm0 : ∀ s, s < 2 ^ n → m0 s = gS cd f n s) (h1 : m1 0 = 0) (hM : jMost m0 m1 n (2 ^ n)) : ∀ l m s i T, l < 2 ^ n → s ≤ l → T s ≤ i → jhle f s n = true → uT cd f n m s → i + m ≤ 12 → jfl m0 m1 f n l T 0 ≤ i + m
  | 0, m, s, i, T, hl, hsl, hT, hh, hu, hi => by
    obtain rfl : s = 0 := by omega
    have : m = 0 := uT_0 hu
    show T 0 ≤ i + m
    omega
  | l + 1, m, s, i, T, hl, hsl, hT, hh, hu, hi => by
    have h12 : 2 ^ n ≤ 4096 := Nat.le_trans (Nat.pow_le_pow_right (by omega) hn) (Nat.le_refl _)
    have hw := jot_lt (l := l + 1) (by omega)
    obtain ⟨j1, j2, j3⟩ := jta_ok (m0 := m0) (m1 := m1) (s := l + 1) (by omega) hw (fun r hr => (low_ok (by omega) (by omega) hr).2.2) 4096 0 T (Nat.zero_and _) (by omega)
    unfold jfl
    by_cases z : s = l + 1
    · rw [← z] at j1 j2 j3 ⊢
      rw [if_pos ⟨by omega, hh⟩]
      cases m with
      | zero => have : s = 0 := hu; omega
      | succ m =>
        obtain ⟨t, t1, t2, t3, t4, t5⟩ := greedy hc hn hg hf (by omega) (by omega) hh hu
        obtain ⟨q1, q2⟩ := low_at (s := s) (by omega) (by omega) t2 t3
        have htl := sub_le t2
        have hx := xs_ne t2 t1.1
        have h6 := j2 (t ^^^ jlow s) q1 (Nat.zero_le _) (by rw [q2]; exact (jia_aT hc hn hf hg hm0 h1 hM (by omega)).mpr t1)
        rw [q2] at h6
        have := jfl_comp hc hn hf hg hm0 h1 hM l m (s ^^^ t) (i + 1) (jta m0 m1 s 4096 0 T) (by omega) (by omega) (by omega) t4 t5 (by omega)
        omega
    · refine jfl_comp hc hn hf hg hm0 h1 hM l m s i _ (by omega) (by omega) ?_ hh hu hi
      split
      · exact Nat.le_trans (j1 s) hT
      · exact hT
theorem jfl_sound (hc : cd ∈ jcodes) (hn : n ≤ 12) (hf : ∀ j, j < n → f j < god cd) (hg : 0 < god cd) (hm0 : ∀ s, s < 2 ^ n → m0 s = gS cd f n s) (h1 : m1 0 = 0) (hM : jMost m0 m1 n (2 ^ n)) {wh : Nat} (hwh : ∀ j, j < n → wh.testBit j = true) : ∀ l T, l < 2 ^ n → (∀ u, u < 2 ^ n → T u = 127 ∨ uT cd f n (T u) (wh ^^^ u)) → ∀ u, u < 2 ^ n → jfl m0 m1 f n l T u = 127 ∨ uT cd f n (jfl m0 m1 f n l T u) (wh ^^^ u)
  | 0, T, _, hT => hT
  | l + 1, T, hl, hT => by
    have h12 : 2 ^ n ≤ 4096 := Nat.le_trans (Nat.pow_le_pow_right (by omega) hn) (Nat.le_refl _)
    have hw := jot_lt (l := l + 1) (by omega)
    obtain ⟨j1, j2, j3⟩ := jta_ok (m0 := m0) (m1 := m1) (s := l + 1) (by omega) hw (fun r hr => (low_ok (by omega) (by omega) hr).2.2) 4096 0 T (Nat.zero_and _) (by omega)
    unfold jfl
    refine jfl_sound hc hn hf hg hm0 h1 hM hwh l _ (by omega) (fun u hu => ?_)
    by_cases q : ¬ T (l + 1) = 127 ∧ jhle f (l + 1) n = true
    · rw [if_pos q]
      rcases j3 u with w | ⟨r, r1, r2, r3, r4⟩
      · rw [w]; exact hT u hu
      · obtain ⟨o1, o2, o3⟩ := low_ok (s := l + 1) (by omega) (by omega) r1
        have ol := sub_le o1
        have ha := (jia_aT hc hn hf hg hm0 h1 hM (s := r ||| jlow (l + 1)) (by omega)).mp r2
        have hp := (hT (l + 1) hl).resolve_left q.1
        rw [r4, r3]
        generalize r ||| jlow (l + 1) = t at o1 ha ⊢
        refine Or.inr ⟨t, ha, sub_of fun j hj => ?_, ?_⟩
        · have h7 := sub_tb o1 hj
          rw [tb_xs, tb_xs, hwh j (tb_lt hl h7), h7, hj]
          rfl
        · rw [← Nat.xor_assoc, Nat.xor_assoc, Nat.xor_self, Nat.xor_zero]
          exact hp
    · rw [if_neg q]; exact hT u hu
theorem taken_eq (hc : cd ∈ jcodes) (hn : n ≤ 12) (hf : ∀ j, j < n → f j < god cd) (hg : 0 < god cd) (hm0 : ∀ s, s < 2 ^ n → m0 s = gS cd f n s) (h1 : m1 0 = 0) (hM : jMost m0 m1 n (2 ^ n)) (hz : gS cd f n (2 ^ n - 1) = 0) {T : Nat → Nat} : jfl m0 m1 f n (2 ^ n - 1) (va_up (fun t => if t < 4096 then 127 else T t) (2 ^ n - 1) 0) 0 = mMn cd f n (2 ^ n - 1) := by
  have h12 : 2 ^ n ≤ 4096 := Nat.le_trans (Nat.pow_le_pow_right (by omega) hn) (Nat.le_refl _)
  have hp := Nat.two_pow_pos n
  have hwl : 2 ^ n - 1 < 2 ^ n := by omega
  have hwh : ∀ j, j < n → (2 ^ n - 1).testBit j = true := fun j hj => by rw [Nat.testBit_two_pow_sub_one]; exact decide_eq_true hj
  obtain ⟨x1, x2, x3⟩ := mMn_ok hc hn hf hwl hz
  obtain ⟨T0, hT0⟩ : ∃ T0, T0 = va_up (fun t => if t < 4096 then 127 else T t) (2 ^ n - 1) 0 := ⟨_, rfl⟩
  rw [← hT0]
  have t1 : T0 (2 ^ n - 1) = 0 := by rw [hT0, uq_at]
  have a := jfl_comp hc hn hf hg hm0 h1 hM (2 ^ n - 1) _ (2 ^ n - 1) 0 T0 hwl (Nat.le_refl _) (by omega) (jhle_is.mpr fun p hp _ o ho _ hno => by rw [hwh o ho] at hno; cases hno) (pT_uT _ _ x1) (by omega)
  have b := jfl_sound hc hn hf hg hm0 h1 hM hwh (2 ^ n - 1) T0 hwl (fun u hu => by
    by_cases z : u = 2 ^ n - 1
    · rw [z, t1, Nat.xor_self]; exact Or.inr rfl
    · left; rw [hT0, uq_ne z, if_pos (by omega)]) 0 hp
  rcases b with w | w
  · omega
  · rw [Nat.xor_zero] at w
    have := x2 _ (uT_pT _ _ (by omega) w)
    omega
end
