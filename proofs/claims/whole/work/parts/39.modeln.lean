/-! sets of places with sum nought -/
theorem uq_at {α : Type} {h : Nat → α} {i : Nat} {v : α} : va_up h i v i = v := by simp [va_up]
theorem uq_ne {α : Type} {h : Nat → α} {i k : Nat} {v : α} (z : k ≠ i) : va_up h i v k = h k := by simp [va_up, z]
theorem sub_tb {t s j : Nat} (h : t &&& s = t) (hj : t.testBit j = true) : s.testBit j = true := by
  rw [← h, Nat.testBit_and, Bool.and_eq_true] at hj
  exact hj.2
theorem sub_of {t s : Nat} (h : ∀ j, t.testBit j = true → s.testBit j = true) : t &&& s = t := by
  apply Nat.eq_of_testBit_eq
  intro j
  rw [Nat.testBit_and]
  cases q : t.testBit j with
  | false => rfl
  | true => rw [h j q]; rfl
theorem sub_bit {t s : Nat} (h : t &&& s = t) (hne : t ≠ s) : ∃ j, s.testBit j = true ∧ t.testBit j = false := by
  apply Classical.byContradiction
  intro hn
  apply hne
  apply Nat.eq_of_testBit_eq
  intro j
  cases r : t.testBit j with
  | true => rw [sub_tb h r]
  | false =>
    cases q : s.testBit j with
    | false => rfl
    | true => exact absurd ⟨j, q, r⟩ hn
theorem sub_trans {a b c : Nat} (h1 : a &&& b = a) (h2 : b &&& c = b) : a &&& c = a := sub_of fun j hj => sub_tb h2 (sub_tb h1 hj)
theorem sub_xor {t s k : Nat} (h : t &&& s = t) (hk : t.testBit k = false) : t &&& (s ^^^ 2 ^ k) = t := sub_of fun j hj => by
  rw [tb_xor, sub_tb h hj]
  by_cases z : k = j
  · subst z; rw [hk] at hj; cases hj
  · rw [decide_eq_false z]; rfl
theorem xor_sub {s k : Nat} (hk : s.testBit k = true) : (s ^^^ 2 ^ k) &&& s = s ^^^ 2 ^ k := sub_of fun j hj => by
  rw [tb_xor] at hj
  by_cases z : k = j
  · subst z; exact hk
  · rw [decide_eq_false z, Bool.xor_false] at hj; exact hj
theorem tb_lt {s n k : Nat} (hs : s < 2 ^ n) (hk : s.testBit k = true) : k < n := by
  rcases Nat.lt_or_ge k n with z | z
  · exact z
  · rw [Nat.testBit_lt_two_pow (Nat.lt_of_lt_of_le hs (Nat.pow_le_pow_right (by omega) z))] at hk; cases hk
theorem sub_le {t s : Nat} (h : t &&& s = t) : t ≤ s := by rw [← h]; exact Nat.and_le_right
theorem sub_0 {t : Nat} (h : t &&& 0 = t) : t = 0 := by rw [← h, Nat.and_zero]
/-- does a sub-row of s make nought? -/
def zB (cd : Nat) (f : Nat → Nat) (n s : Nat) : Prop := ∃ t, t ≠ 0 ∧ t &&& s = t ∧ gS cd f n t = 0
/-- is s an atom? -/
def aT (cd : Nat) (f : Nat → Nat) (n s : Nat) : Prop := s ≠ 0 ∧ gS cd f n s = 0 ∧ ∀ t, t ≠ 0 → t &&& s = t → gS cd f n t = 0 → t = s
section
variable {cd n s k : Nat} {f : Nat → Nat}
theorem zB_0 : ¬ zB cd f n 0 := fun ⟨t, h1, h2, _⟩ => h1 (sub_0 h2)
theorem zB_rec (hs : s < 2 ^ n) : zB cd f n s ↔ (s ≠ 0 ∧ gS cd f n s = 0) ∨ ∃ j, j < n ∧ s.testBit j = true ∧ zB cd f n (s ^^^ 2 ^ j) := by
  constructor
  · rintro ⟨t, h1, h2, h3⟩
    by_cases z : t = s
    · subst z; exact Or.inl ⟨h1, h3⟩
    · obtain ⟨j, h4, h5⟩ := sub_bit h2 z
      exact Or.inr ⟨j, tb_lt hs h4, h4, t, h1, sub_xor h2 h5, h3⟩
  · rintro (⟨h1, h2⟩ | ⟨j, _, h2, t, h3, h4, h5⟩)
    · exact ⟨s, h1, Nat.and_self s, h2⟩
    · exact ⟨t, h3, sub_trans h4 (xor_sub h2), h5⟩
theorem aT_rec (hs : s < 2 ^ n) : aT cd f n s ↔ s ≠ 0 ∧ gS cd f n s = 0 ∧ ∀ j, j < n → s.testBit j = true → ¬ zB cd f n (s ^^^ 2 ^ j) := by
  constructor
  · rintro ⟨h1, h2, h3⟩
    refine ⟨h1, h2, fun j _ hj => ?_⟩
    rintro ⟨t, h4, h5, h6⟩
    have h7 := h3 t h4 (sub_trans h5 (xor_sub hj)) h6
    subst h7
    have h8 := sub_tb h5 hj
    rw [tb_xor, hj] at h8
    simp at h8
  · rintro ⟨h1, h2, h3⟩
    refine ⟨h1, h2, fun t h4 h5 h6 => ?_⟩
    apply Classical.byContradiction
    intro z
    obtain ⟨j, h7, h8⟩ := sub_bit h5 z
    exact h3 j (tb_lt hs h7) h7 ⟨t, h4, sub_xor h5 h8, h6⟩
/-- what the loop over the places has seen -/
def zQ (cd : Nat) (f : Nat → Nat) (n s k : Nat) : Prop := (s ≠ 0 ∧ gS cd f n s = 0) ∨ ∃ j, j < k ∧ s.testBit j = true ∧ zB cd f n (s ^^^ 2 ^ j)
theorem zQ_0t (h0 : s ≠ 0) (h : gS cd f n s = 0) : true = jD (zQ cd f n s 0) := (jD_t (Or.inl ⟨h0, h⟩)).symm
theorem zQ_0f (h : ¬ gS cd f n s = 0) : false = jD (zQ cd f n s 0) := (jD_f (fun z => z.elim (fun q => h q.2) (fun ⟨j, q, _⟩ => absurd q (Nat.not_lt_zero j)))).symm
theorem zQ_s (h : s.testBit k = false ∨ ¬ zB cd f n (s ^^^ 2 ^ k)) : jD (zQ cd f n s k) = jD (zQ cd f n s (k + 1)) := by
  congr 1
  apply propext
  constructor
  · rintro (q | ⟨j, q, r⟩)
    · exact Or.inl q
    · exact Or.inr ⟨j, by omega, r⟩
  · rintro (q | ⟨j, q, r1, r2⟩)
    · exact Or.inl q
    · by_cases z : j = k
      · subst z
        rcases h with h | h
        · rw [h] at r1; cases r1
        · exact absurd r2 h
      · exact Or.inr ⟨j, by omega, r1, r2⟩
theorem zQ_t (h1 : s.testBit k = true) (h2 : zB cd f n (s ^^^ 2 ^ k)) : true = jD (zQ cd f n s (k + 1)) := (jD_t (Or.inr ⟨k, by omega, h1, h2⟩)).symm
theorem zQ_e (hs : s < 2 ^ n) : jD (zQ cd f n s n) = jD (zB cd f n s) := by rw [propext (zB_rec hs)]; rfl
end
theorem j_andn (a b : Nat) : nI a &&& (nI b ^^^ -1) = nI (a ^^^ (a &&& b)) := by
  apply Int32.toBitVec_inj.mp
  rw [Int32.toBitVec_and, Int32.toBitVec_xor, j_bv, j_bv, j_bv]
  apply BitVec.eq_of_getLsbD_eq
  intro i hi
  have h1 : (-1 : Int32).toBitVec = BitVec.allOnes 32 := by decide
  rw [h1]
  rw [BitVec.getLsbD_and, BitVec.getLsbD_xor, BitVec.getLsbD_allOnes, BitVec.getLsbD_ofNat, BitVec.getLsbD_ofNat, BitVec.getLsbD_ofNat, Nat.testBit_xor, Nat.testBit_and, decide_eq_true hi]
  cases a.testBit i <;> cases b.testBit i <;> rfl
theorem and_pow {s k : Nat} (h : s.testBit k = true) : s &&& 2 ^ k = 2 ^ k := by
  rw [Nat.and_comm]
  refine sub_of fun j hj => ?_
  rw [Nat.testBit_two_pow] at hj
  have := of_decide_eq_true hj
  subst this
  exact h
theorem pow12 {k n : Nat} (h : k < n) (hn : n ≤ 12) : 2 ^ k < 4096 := by
  have := Nat.pow_lt_pow_right (a := 2) (by omega) (show k < 12 by omega)
  omega
/-! what may come -/
def mor1 (F : Nat → Nat) : Nat → Nat
  | 0 => 1
  | s + 1 => mor1 F s ||| 1 <<< F (s + 1)
theorem mor1_lt {F : Nat → Nat} : ∀ s, (∀ t, t ≤ s → F t < 24) → mor1 F s < 2 ^ 24
  | 0, _ => by show 1 < _; decide
  | s + 1, h => Nat.or_lt_two_pow (mor1_lt s (fun t ht => h t (by omega))) (jbit_lt (h (s + 1) (Nat.le_refl _)))
def mwo (cd M : Nat) : Nat → Nat
  | 0 => 0
  | g + 1 => if M.testBit (gN cd g) then mwo cd M g else mwo cd M g ||| 1 <<< g
noncomputable def mmay (cd : Nat) (f : Nat → Nat) (n : Nat) : Nat := if jD (zB cd f n (2 ^ n - 1)) = true then 0 else mwo cd (mor1 (gS cd f n) (2 ^ n - 1)) (god cd)
/-! parted into atoms -/
theorem gS_sub {cd : Nat} {f : Nat → Nat} {s a : Nat} (h : cd ∈ jcodes) (ha : a &&& s = a) : ∀ n, (∀ j, j < n → f j < god cd) → gS cd f n s = gP cd (gS cd f n (s ^^^ a)) (gS cd f n a)
  | 0, _ => by
    show 0 = gP cd 0 0
    by_cases z : 0 < god cd
    · rw [gP_0 h z]
    · rw [gP_out (fun q => z q.1)]
  | n + 1, hf => by
    have ih := gS_sub (f := f) h ha n (fun j hj => hf j (by omega))
    have h0 : 0 < god cd := by have := hf n (by omega); omega
    have h1 := gS_lt (f := f) h h0 (s ^^^ a) n (fun j hj => hf j (by omega))
    have h2 := gS_lt (f := f) h h0 a n (fun j hj => hf j (by omega))
    have h3 := hf n (by omega)
    rw [gS_s, gS_s, gS_s, ih, Nat.testBit_xor]
    cases q : a.testBit n with
    | true =>
      rw [sub_tb ha q]
      rw [if_pos rfl, if_neg (show ¬ (true ^^ true) = true by decide), if_pos rfl, gP_assoc h h1 h2 h3]
    | false =>
      cases r : s.testBit n with
      | false => rfl
      | true =>
        rw [if_pos rfl, if_pos (show (true ^^ false) = true from rfl), if_neg (show ¬ (false = true) by decide), gP_assoc h h1 h2 h3, gP_comm h (gS cd f n a) (f n), ← gP_assoc h h1 h3 h2]
/-- s parted into k atoms, that with the least place first -/
def pT (cd : Nat) (f : Nat → Nat) (n : Nat) : Nat → Nat → Prop
  | 0, s => s = 0
  | k + 1, s => s ≠ 0 ∧ ∃ a, aT cd f n a ∧ a &&& s = a ∧ a.testBit (mlw s 12 0) = true ∧ pT cd f n k (s ^^^ a)
noncomputable def mxv (T : Nat → Prop) : Nat → Nat
  | 0 => 0
  | k + 1 => if jD (T (k + 1)) = true then k + 1 else mxv T k
noncomputable def mnv (T : Nat → Prop) : Nat → Nat → Nat
  | 0, k => k
  | d + 1, k => if jD (T k) = true then k else mnv T d (k + 1)
theorem mxv_ok {T : Nat → Prop} : ∀ N, (∃ k, k ≤ N ∧ T k) → T (mxv T N) ∧ (∀ k, k ≤ N → T k → k ≤ mxv T N) ∧ mxv T N ≤ N
  | 0, ⟨k, h, hk⟩ => by
    obtain rfl : k = 0 := by omega
    exact ⟨hk, fun k hk _ => hk, Nat.le_refl _⟩
  | N + 1, ⟨k, h, hk⟩ => by
    unfold mxv
    split
    · rename_i q
      exact ⟨jD_is.mp q, fun k hk _ => hk, Nat.le_refl _⟩
    · rename_i q
      have q : ¬ T (N + 1) := fun z => q (jD_t z)
      have hk2 : k ≤ N := by
        rcases Nat.lt_or_ge N k with z | z
        · exfalso
          obtain rfl : k = N + 1 := by omega
          exact q hk
        · exact z
      obtain ⟨h1, h2, h3⟩ := mxv_ok N ⟨k, hk2, hk⟩
      refine ⟨h1, fun j hj hT => ?_, by omega⟩
      rcases Nat.lt_or_ge N j with z | z
      · exfalso
        obtain rfl : j = N + 1 := by omega
        exact q hT
      · exact h2 j z hT
theorem mnv_ok {T : Nat → Prop} : ∀ d k, (∃ j, k ≤ j ∧ j < k + d ∧ T j) → T (mnv T d k) ∧ (∀ j, k ≤ j → T j → mnv T d k ≤ j) ∧ mnv T d k < k + d
  | 0, k, ⟨j, h1, h2, _⟩ => by omega
  | d + 1, k, ⟨j, h1, h2, hj⟩ => by
    unfold mnv
    split
    · rename_i q
      exact ⟨jD_is.mp q, fun j hj _ => hj, by omega⟩
    · rename_i q
      have q : ¬ T k := fun z => q (jD_t z)
      have hjk : k + 1 ≤ j := by
        rcases Nat.lt_or_ge k j with z | z
        · exact z
        · exfalso
          obtain rfl : j = k := by omega
          exact q hj
      obtain ⟨h3, h4, h5⟩ := mnv_ok d (k + 1) ⟨j, hjk, by omega, hj⟩
      refine ⟨h3, fun i hi hT => ?_, by omega⟩
      rcases Nat.lt_or_ge k i with z | z
      · exact h4 i z hT
      · exfalso
        obtain rfl : i = k := by omega
        exact q hT
noncomputable def mMx (cd : Nat) (f : Nat → Nat) (n s : Nat) : Nat := mxv (fun k => pT cd f n k s) 12
noncomputable def mMn (cd : Nat) (f : Nat → Nat) (n s : Nat) : Nat := mnv (fun k => pT cd f n k s) 13 0
section
variable {cd n : Nat} {f : Nat → Nat}
theorem tb_xs {s a j : Nat} : (s ^^^ a).testBit j = (s.testBit j ^^ a.testBit j) := Nat.testBit_xor ..
theorem xs_sub {s a : Nat} (h : a &&& s = a) : (s ^^^ a) &&& s = s ^^^ a := sub_of fun j hj => by
  rw [tb_xs] at hj
  cases q : a.testBit j with
  | true => exact sub_tb h q
  | false => rw [q, Bool.xor_false] at hj; exact hj
theorem xs_ne {s a : Nat} (h : a &&& s = a) (h0 : a ≠ 0) : s ^^^ a < s := by
  have h1 := sub_le (xs_sub h)
  rcases Nat.lt_or_ge (s ^^^ a) s with z | z
  · exact z
  · exfalso
    have h2 : s ^^^ a = s := by omega
    apply h0
    apply Nat.eq_of_testBit_eq
    intro j
    have h3 := congrArg (fun z => z.testBit j) h2
    simp only [tb_xs] at h3
    rw [Nat.zero_testBit]
    cases q : s.testBit j <;> cases r : a.testBit j <;> simp_all
theorem jpc_congr {s t : Nat} : ∀ i, (∀ j, j < i → s.testBit j = t.testBit j) → jpc s i = jpc t i
  | 0, _ => rfl
  | i + 1, h => by unfold jpc; rw [jpc_congr i (fun j hj => h j (by omega)), h i (by omega)]
theorem jpc_sub {s a : Nat} (h : a &&& s = a) : ∀ i, jpc s i = jpc (s ^^^ a) i + jpc a i
  | 0 => rfl
  | i + 1 => by
    have ih := jpc_sub h i
    unfold jpc
    rw [tb_xs]
    cases q : a.testBit i with
    | true => rw [sub_tb h q]; simp; omega
    | false => cases r : s.testBit i <;> simp <;> omega
theorem jpc_pos {a k : Nat} (h : a.testBit k = true) : ∀ i, k < i → 1 ≤ jpc a i
  | 0, hk => absurd hk (Nat.not_lt_zero _)
  | i + 1, hk => by
    unfold jpc
    by_cases z : k = i
    · subst z; rw [if_pos h]; omega
    · have := jpc_pos h i (by omega)
      split <;> omega
theorem pT_le (hn : n ≤ 12) : ∀ k s, s < 2 ^ n → pT cd f n k s → k ≤ jpc s 12
  | 0, _, _, _ => Nat.zero_le _
  | k + 1, s, hs, ⟨h0, a, h1, h2, h3, h4⟩ => by
    have hl := xs_ne h2 h1.1
    have ih := pT_le hn k (s ^^^ a) (by omega) h4
    have := jpc_sub h2 12
    have := jpc_pos h3 12 (by have := tb_lt (Nat.lt_of_le_of_lt (sub_le h2) hs) h3; omega)
    omega
theorem pT_ex (hc : cd ∈ jcodes) (hn : n ≤ 12) (hf : ∀ j, j < n → f j < god cd) : ∀ N s, s < N → s < 2 ^ n → gS cd f n s = 0 → ∃ k, pT cd f n k s
  | 0, s, h, _, _ => absurd h (Nat.not_lt_zero _)
  | N + 1, s, h, hs, hz => by
    by_cases h0 : s = 0
    · exact ⟨0, h0⟩
    have h12 : 2 ^ n ≤ 2 ^ 12 := Nat.pow_le_pow_right (by omega) hn
    have hlow := mlw_ok (s := s) (by omega) h0
    have hg0 : 0 < god cd := by have := hf _ (tb_lt hs hlow.2.1); omega
    -- the least set that has the first place and sum nought
    have key : ∀ M t, t < M → t &&& s = t → t.testBit (mlw s 12 0) = true → gS cd f n t = 0 → ∃ a, aT cd f n a ∧ a &&& s = a ∧ a.testBit (mlw s 12 0) = true := by
      intro M
      induction M with
      | zero => intro t ht; exact absurd ht (Nat.not_lt_zero _)
      | succ M ih =>
        intro t ht h1 h2 h3
        by_cases q : aT cd f n t
        · exact ⟨t, q, h1, h2⟩
        · have ht0 : t ≠ 0 := fun z => by rw [z, Nat.zero_testBit] at h2; cases h2
          have : ∃ u, u ≠ 0 ∧ u &&& t = u ∧ gS cd f n u = 0 ∧ u ≠ t := by
            apply Classical.byContradiction
            intro w
            refine q ⟨ht0, h3, fun u h4 h5 h6 => ?_⟩
            apply Classical.byContradiction
            intro h7
            exact w ⟨u, h4, h5, h6, h7⟩
          obtain ⟨u, h4, h5, h6, h7⟩ := this
          have hut := sub_le h5
          cases r : u.testBit (mlw s 12 0) with
          | true => exact ih u (by omega) (sub_trans h5 h1) r h6
          | false =>
            have h8 := gS_sub (f := f) hc h5 n hf
            rw [h3, h6, gP_0 hc (gS_lt hc hg0 _ n hf)] at h8
            exact ih (t ^^^ u) (by have := xs_ne h5 h4; omega) (sub_trans (xs_sub h5) h1) (by rw [tb_xs, h2, r]; rfl) h8.symm
    obtain ⟨a, h1, h2, h3⟩ := key (s + 1) s (Nat.lt_succ_self _) (Nat.and_self s) hlow.2.1 hz
    have h4 := gS_sub (f := f) hc h2 n hf
    rw [hz, h1.2.1, gP_0 hc (gS_lt hc hg0 _ n hf)] at h4
    have h5 := xs_ne h2 h1.1
    obtain ⟨k, hk⟩ := pT_ex hc hn hf N (s ^^^ a) (by omega) (by omega) h4.symm
    exact ⟨k + 1, h0, a, h1, h2, h3, hk⟩
theorem mMx_ok (hc : cd ∈ jcodes) (hn : n ≤ 12) (hf : ∀ j, j < n → f j < god cd) {s : Nat} (hs : s < 2 ^ n) (hz : gS cd f n s = 0) : pT cd f n (mMx cd f n s) s ∧ (∀ k, pT cd f n k s → k ≤ mMx cd f n s) ∧ mMx cd f n s ≤ 12 := by
  obtain ⟨k, hk⟩ := pT_ex hc hn hf (s + 1) s (Nat.lt_succ_self _) hs hz
  have hle : ∀ k, pT cd f n k s → k ≤ 12 := fun k hk => Nat.le_trans (pT_le hn k s hs hk) (jpc_le s 12)
  have := mxv_ok (T := fun k => pT cd f n k s) 12 ⟨k, hle k hk, hk⟩
  exact ⟨this.1, fun k hk => this.2.1 k (hle k hk) hk, this.2.2⟩
theorem mMn_ok (hc : cd ∈ jcodes) (hn : n ≤ 12) (hf : ∀ j, j < n → f j < god cd) {s : Nat} (hs : s < 2 ^ n) (hz : gS cd f n s = 0) : pT cd f n (mMn cd f n s) s ∧ (∀ k, pT cd f n k s → mMn cd f n s ≤ k) ∧ mMn cd f n s ≤ 12 := by
  obtain ⟨k, hk⟩ := pT_ex hc hn hf (s + 1) s (Nat.lt_succ_self _) hs hz
  have hle : ∀ k, pT cd f n k s → k ≤ 12 := fun k hk => Nat.le_trans (pT_le hn k s hs hk) (jpc_le s 12)
  have := mnv_ok (T := fun k => pT cd f n k s) 13 0 ⟨k, by omega, by have := hle k hk; omega, hk⟩
  exact ⟨this.1, fun k hk => this.2.1 k (by omega) hk, by have := this.2.2; unfold mMn; omega⟩
end
/-- the number if the sum is nought, else NONE -/
def mNo (cd : Nat) (f : Nat → Nat) (n s v : Nat) : Int32 := if gS cd f n s = 0 then nI v else -1
/-- the least and the most of what has been seen -/
def mRg (T : Nat → Prop) (x y : Int32) : Prop := (x = -1 ∧ y = -1 ∧ ∀ k, ¬ T k) ∨ ∃ a b : Nat, x = nI a ∧ y = nI b ∧ (T a ∧ ∀ k, T k → a ≤ k) ∧ (T b ∧ ∀ k, T k → k ≤ b) ∧ b ≤ 13
theorem mRg_s {T L : Nat → Prop} {x y x' y' : Int32} {a b : Nat} (h : mRg T x y) (ha : L a ∧ ∀ k, L k → a ≤ k) (hb : L b ∧ ∀ k, L k → k ≤ b) (hb2 : b ≤ 12)
    (hx : (x' = nI (a + 1) ∧ (x = -1 ∨ ¬ x ≤ nI (a + 1))) ∨ (x' = x ∧ ¬ x = -1 ∧ x ≤ nI (a + 1))) (hy : (y' = nI (b + 1) ∧ ¬ nI (b + 1) ≤ y) ∨ (y' = y ∧ nI (b + 1) ≤ y)) : mRg (fun k => T k ∨ ∃ j, k = j + 1 ∧ L j) x' y' := by
  have hab := hb.2 a ha.1
  rcases h with ⟨h1, h2, h3⟩ | ⟨p, q, h1, h2, h3, h4, h5⟩
  · subst h1; subst h2
    have hx1 : x' = nI (a + 1) := by
      rcases hx with hx | hx
      · exact hx.1
      · exact absurd rfl hx.2.1
    have hy1 : y' = nI (b + 1) := by
      rcases hy with hy | hy
      · exact hy.1
      · exfalso
        have := hy.2
        rw [Int32.le_iff_toInt_le, nI_toInt (by omega)] at this
        have h9 : (-1 : Int32).toInt = -1 := by decide
        omega
    refine Or.inr ⟨a + 1, b + 1, hx1, hy1, ⟨Or.inr ⟨a, rfl, ha.1⟩, ?_⟩, ⟨Or.inr ⟨b, rfl, hb.1⟩, ?_⟩, by omega⟩
    · rintro k (hk | ⟨j, rfl, hj⟩)
      · exact absurd hk (h3 k)
      · have := ha.2 j hj; omega
    · rintro k (hk | ⟨j, rfl, hj⟩)
      · exact absurd hk (h3 k)
      · have := hb.2 j hj; omega
  · subst h1; subst h2
    have hpq := h4.2 p h3.1
    have hle : ∀ u v : Nat, u < 100 → v < 100 → (nI u ≤ nI v ↔ u ≤ v) := by
      intro u v hu hv
      rw [Int32.le_iff_toInt_le, nI_toInt (by omega), nI_toInt (by omega)]
      omega
    have hx1 : ∃ a2 : Nat, x' = nI a2 ∧ (T a2 ∨ ∃ j, a2 = j + 1 ∧ L j) ∧ ∀ k, (T k ∨ ∃ j, k = j + 1 ∧ L j) → a2 ≤ k := by
      rcases hx with hx | hx
      · have h6 : ¬ p ≤ a + 1 := by
          rcases hx.2 with z | z
          · exact absurd z (nI_ne_neg (by omega))
          · rw [hle _ _ (by omega) (by omega)] at z; exact z
        refine ⟨a + 1, hx.1, Or.inr ⟨a, rfl, ha.1⟩, ?_⟩
        rintro k (hk | ⟨j, rfl, hj⟩)
        · have := h3.2 k hk; omega
        · have := ha.2 j hj; omega
      · have h6 := hx.2.2
        rw [hle _ _ (by omega) (by omega)] at h6
        refine ⟨p, hx.1, Or.inl h3.1, ?_⟩
        rintro k (hk | ⟨j, rfl, hj⟩)
        · exact h3.2 k hk
        · have := ha.2 j hj; omega
    have hy1 : ∃ b2 : Nat, y' = nI b2 ∧ (T b2 ∨ ∃ j, b2 = j + 1 ∧ L j) ∧ (∀ k, (T k ∨ ∃ j, k = j + 1 ∧ L j) → k ≤ b2) ∧ b2 ≤ 13 := by
      rcases hy with hy | hy
      · have h6 := hy.2
        rw [hle _ _ (by omega) (by omega)] at h6
        refine ⟨b + 1, hy.1, Or.inr ⟨b, rfl, hb.1⟩, ?_, by omega⟩
        rintro k (hk | ⟨j, rfl, hj⟩)
        · have := h4.2 k hk; omega
        · have := hb.2 j hj; omega
      · have h6 := hy.2
        rw [hle _ _ (by omega) (by omega)] at h6
        refine ⟨q, hy.1, Or.inl h4.1, ?_, h5⟩
        rintro k (hk | ⟨j, rfl, hj⟩)
        · exact h4.2 k hk
        · have := hb.2 j hj; omega
    obtain ⟨a2, h6, h7, h8⟩ := hx1
    obtain ⟨b2, h9, h10, h11, h12⟩ := hy1
    exact Or.inr ⟨a2, b2, h6, h9, ⟨h7, h8⟩, ⟨h10, h11⟩, h12⟩
/-- the next lesser set within m -/
theorem bit_split (x : Nat) : x = 2 * (x / 2) + x % 2 := by omega
theorem and_split (x y : Nat) : x &&& y = 2 * (x / 2 &&& y / 2) + (x % 2) * (y % 2) := by
  have h1 := bit_split (x &&& y)
  have h2 : (x &&& y) / 2 = x / 2 &&& y / 2 := Nat.and_div_two
  have h3 : (x &&& y) % 2 = (x % 2) * (y % 2) := by
    have h4 := @Nat.and_mod_two_eq_one x y
    have h5 : x % 2 = 0 ∨ x % 2 = 1 := by omega
    have h6 : y % 2 = 0 ∨ y % 2 = 1 := by omega
    have h7 : (x &&& y) % 2 = 0 ∨ (x &&& y) % 2 = 1 := by omega
    rcases h5 with h5 | h5 <;> rcases h6 with h6 | h6 <;> rw [h5, h6] <;> rw [h5, h6] at h4 <;> rcases h7 with h7 | h7 <;> rw [h7] at h4 ⊢ <;> simp at h4 ⊢
  rw [h2, h3] at h1
  exact h1
theorem sub_half {a m : Nat} (h : a &&& m = a) : (a / 2) &&& (m / 2) = a / 2 ∧ a % 2 ≤ m % 2 := by
  rw [and_split] at h
  have h5 : a % 2 = 0 ∨ a % 2 = 1 := by omega
  have h6 : m % 2 = 0 ∨ m % 2 = 1 := by omega
  rcases h5 with h5 | h5 <;> rcases h6 with h6 | h6 <;> rw [h5, h6] at h <;> constructor <;> omega
theorem prev_le : ∀ (N p m q : Nat), p < N → p &&& m = p → q &&& m = q → q < p → q ≤ (p - 1) &&& m
  | 0, _, _, _, h, _, _, _ => absurd h (Nat.not_lt_zero _)
  | N + 1, p, m, q, hN, hp, hq, hqp => by
    obtain ⟨hp1, hp2⟩ := sub_half hp
    obtain ⟨hq1, hq2⟩ := sub_half hq
    rw [and_split]
    have h5 : p % 2 = 0 ∨ p % 2 = 1 := by omega
    rcases h5 with h5 | h5
    · have e1 : (p - 1) / 2 = p / 2 - 1 := by omega
      have e2 : (p - 1) % 2 = 1 := by omega
      rw [e1, e2, Nat.one_mul]
      have ih := prev_le N (p / 2) (m / 2) (q / 2) (by omega) hp1 hq1 (by omega)
      omega
    · have e1 : (p - 1) / 2 = p / 2 := by omega
      have e2 : (p - 1) % 2 = 0 := by omega
      rw [e1, e2, hp1]
      omega
theorem prev_sub {p m : Nat} : ((p - 1) &&& m) &&& m = (p - 1) &&& m := by rw [Nat.and_assoc, Nat.and_self]
theorem prev_lt {p m : Nat} (h : p ≠ 0) : (p - 1) &&& m < p := by have := @Nat.and_le_left (p - 1) m; omega
theorem jlow_pow0 : ((List.range 4096).all fun s => decide (s = 0) || decide (jlow s = 2 ^ mlw s 12 0)) = true := by decide +kernel
theorem jlow_pow {s : Nat} (h : s < 4096) (h0 : s ≠ 0) : jlow s = 2 ^ mlw s 12 0 := by
  have := List.all_eq_true.mp jlow_pow0 s (List.mem_range.mpr h)
  simp only [Bool.or_eq_true, decide_eq_true_eq] at this
  rcases this with q | q
  · exact absurd q h0
  · exact q
theorem por_tb {s p k : Nat} (hk : s.testBit k = true) (hp : p &&& (s ^^^ 2 ^ k) = p) : p.testBit k = false := by
  cases q : p.testBit k with
  | false => rfl
  | true =>
    have := sub_tb hp q
    rw [tb_xor, hk] at this
    simp at this
theorem por_xor {p k : Nat} (h : p.testBit k = false) : p ||| 2 ^ k = p ^^^ 2 ^ k := by
  apply Nat.eq_of_testBit_eq
  intro j
  rw [tb_xor, Nat.testBit_or, Nat.testBit_two_pow]
  by_cases z : k = j
  · subst z; rw [h]; simp
  · rw [decide_eq_false z]; simp
theorem por_sub {s p k : Nat} (hk : s.testBit k = true) (hp : p &&& (s ^^^ 2 ^ k) = p) : (p ||| 2 ^ k) &&& s = p ||| 2 ^ k := sub_of fun j hj => by
  rw [Nat.testBit_or, Bool.or_eq_true] at hj
  rcases hj with hj | hj
  · exact sub_tb (sub_trans hp (xor_sub hk)) hj
  · rw [Nat.testBit_two_pow] at hj
    have := of_decide_eq_true hj
    subst this
    exact hk
theorem por_le {s p k : Nat} (hk : s.testBit k = true) (hp : p &&& (s ^^^ 2 ^ k) = p) : p ||| 2 ^ k ≤ s := sub_le (por_sub hk hp)
theorem por_rest {s p k : Nat} (hk : s.testBit k = true) (hp : p &&& (s ^^^ 2 ^ k) = p) : s ^^^ (p ||| 2 ^ k) = (s ^^^ 2 ^ k) ^^^ p := by
  rw [por_xor (por_tb hk hp)]
  apply Nat.eq_of_testBit_eq
  intro j
  rw [tb_xs, tb_xor, tb_xs, tb_xor]
  cases s.testBit j <;> cases p.testBit j <;> cases decide (k = j) <;> rfl
/-- into how many atoms, the first of them with the least place of s and a set beyond p (or p itself) of the others -/
def pC (cd : Nat) (f : Nat → Nat) (n s p k : Nat) : Prop := ∃ q, p < q ∧ q &&& (s ^^^ 2 ^ mlw s 12 0) = q ∧ aT cd f n (q ||| 2 ^ mlw s 12 0) ∧ ∃ j, k = j + 1 ∧ pT cd f n j ((s ^^^ 2 ^ mlw s 12 0) ^^^ q)
def pD (cd : Nat) (f : Nat → Nat) (n s p k : Nat) : Prop := ∃ q, p ≤ q ∧ q &&& (s ^^^ 2 ^ mlw s 12 0) = q ∧ aT cd f n (q ||| 2 ^ mlw s 12 0) ∧ ∃ j, k = j + 1 ∧ pT cd f n j ((s ^^^ 2 ^ mlw s 12 0) ^^^ q)
section
variable {cd n s p : Nat} {f : Nat → Nat} {x y : Int32}
theorem mRg_eq {T T' : Nat → Prop} (h : ∀ k, T k ↔ T' k) (hm : mRg T x y) : mRg T' x y := by
  have : T = T' := funext fun k => propext (h k)
  rw [← this]; exact hm
theorem pC_0 (hx : x = -1) (hy : y = -1) : mRg (pC cd f n s (s ^^^ 2 ^ mlw s 12 0)) x y := Or.inl ⟨hx, hy, fun k ⟨q, h1, h2, _⟩ => by have := sub_le h2; omega⟩
theorem pD_n (h : ¬ aT cd f n (p ||| 2 ^ mlw s 12 0)) (hm : mRg (pC cd f n s p) x y) : mRg (pD cd f n s p) x y := mRg_eq (fun k => by
  constructor
  · rintro ⟨q, h1, h2⟩
    exact ⟨q, by omega, h2⟩
  · rintro ⟨q, h1, h2, h3, h4⟩
    rcases Nat.lt_or_ge p q with z | z
    · exact ⟨q, z, h2, h3, h4⟩
    · obtain rfl : p = q := by omega
      exact absurd h3 h) hm
theorem pD_t {lf : Nat} (h : ∀ k, pD cd f n s p k ↔ (pC cd f n s p k ∨ ∃ j, k = j + 1 ∧ pT cd f n j lf)) (hm : mRg (fun k => pC cd f n s p k ∨ ∃ j, k = j + 1 ∧ pT cd f n j lf) x y) : mRg (pD cd f n s p) x y := mRg_eq (fun k => (h k).symm) hm
theorem pD_c (h0 : p ≠ 0) (hp : p &&& (s ^^^ 2 ^ mlw s 12 0) = p) (hm : mRg (pD cd f n s p) x y) : mRg (pC cd f n s ((p - 1) &&& (s ^^^ 2 ^ mlw s 12 0))) x y := mRg_eq (fun k => by
  constructor
  · rintro ⟨q, h1, h2⟩
    exact ⟨q, by have := prev_lt (m := s ^^^ 2 ^ mlw s 12 0) h0; omega, h2⟩
  · rintro ⟨q, h1, h2, h3⟩
    refine ⟨q, ?_, h2, h3⟩
    rcases Nat.lt_or_ge q p with z | z
    · have := prev_le (p + 1) p (s ^^^ 2 ^ mlw s 12 0) q (Nat.lt_succ_self _) hp h2 z
      omega
    · exact z) hm
theorem pT_st (hc : cd ∈ jcodes) (hn : n ≤ 12) (hf : ∀ j, j < n → f j < god cd) (hs : s < 2 ^ n) (h0 : s ≠ 0) (hz : gS cd f n s = 0) (hp : p &&& (s ^^^ 2 ^ mlw s 12 0) = p) (ha : aT cd f n (p ||| 2 ^ mlw s 12 0)) :
    gS cd f n ((s ^^^ 2 ^ mlw s 12 0) ^^^ p) = 0 ∧ ∀ k, pD cd f n s p k ↔ (pC cd f n s p k ∨ ∃ j, k = j + 1 ∧ pT cd f n j ((s ^^^ 2 ^ mlw s 12 0) ^^^ p)) := by
  have h12 : 2 ^ n ≤ 2 ^ 12 := Nat.pow_le_pow_right (by omega) hn
  have hlw := mlw_ok (s := s) (by omega) h0
  have hg0 : 0 < god cd := by have := hf _ (tb_lt hs hlw.2.1); omega
  refine ⟨?_, fun k => ?_⟩
  · have h1 := gS_sub (f := f) hc (por_sub hlw.2.1 hp) n hf
    rw [hz, ha.2.1, gP_0 hc (gS_lt hc hg0 _ n hf), por_rest hlw.2.1 hp] at h1
    exact h1.symm
  · constructor
    · rintro ⟨q, h1, h2, h3, h4⟩
      rcases Nat.lt_or_ge p q with z | z
      · exact Or.inl ⟨q, z, h2, h3, h4⟩
      · obtain rfl : p = q := by omega
        exact Or.inr h4
    · rintro (⟨q, h1, h2⟩ | h1)
      · exact ⟨q, by omega, h2⟩
      · exact ⟨p, Nat.le_refl _, hp, ha, h1⟩
theorem pD_pT (hs : s < 4096) (h0 : s ≠ 0) (k : Nat) : pD cd f n s 0 k ↔ pT cd f n k s := by
  have hlw := mlw_ok hs h0
  constructor
  · rintro ⟨q, -, h2, h3, j, rfl, h4⟩
    refine ⟨h0, q ||| 2 ^ mlw s 12 0, h3, por_sub hlw.2.1 h2, ?_, ?_⟩
    · rw [Nat.testBit_or, Nat.testBit_two_pow]; simp
    · rw [por_rest hlw.2.1 h2]; exact h4
  · intro h
    cases k with
    | zero => exact absurd h h0
    | succ j =>
      obtain ⟨-, a, h1, h2, h3, h4⟩ := h
      have e1 : (a ^^^ 2 ^ mlw s 12 0) &&& (s ^^^ 2 ^ mlw s 12 0) = a ^^^ 2 ^ mlw s 12 0 := sub_of fun i hi => by
        rw [tb_xor] at hi ⊢
        by_cases z : mlw s 12 0 = i
        · rw [← z, h3] at hi; simp at hi
        · rw [decide_eq_false z, Bool.xor_false] at hi ⊢
          exact sub_tb h2 hi
      have e2 : (a ^^^ 2 ^ mlw s 12 0) ||| 2 ^ mlw s 12 0 = a := by
        rw [por_xor (by rw [tb_xor, h3]; simp)]
        apply Nat.eq_of_testBit_eq
        intro i
        rw [tb_xor, tb_xor]
        cases a.testBit i <;> cases decide (mlw s 12 0 = i) <;> rfl
      refine ⟨a ^^^ 2 ^ mlw s 12 0, Nat.zero_le _, e1, by rw [e2]; exact h1, j, rfl, ?_⟩
      rw [← por_rest hlw.2.1 e1, e2]
      exact h4
theorem pD_e (hc : cd ∈ jcodes) (hn : n ≤ 12) (hf : ∀ j, j < n → f j < god cd) (hs : s < 2 ^ n) (h0 : s ≠ 0) (hz : gS cd f n s = 0) (hp : p = 0) (hm : mRg (pD cd f n s p) x y) : x = mNo cd f n s (mMn cd f n s) ∧ y = mNo cd f n s (mMx cd f n s) := by
  subst hp
  have h12 : 2 ^ n ≤ 2 ^ 12 := Nat.pow_le_pow_right (by omega) hn
  have hm := mRg_eq (pD_pT (cd := cd) (n := n) (f := f) (show s < 4096 by omega) h0) hm
  have h1 := mMn_ok hc hn hf hs hz
  have h2 := mMx_ok hc hn hf hs hz
  unfold mNo
  rw [if_pos hz, if_pos hz]
  rcases hm with ⟨-, -, h3⟩ | ⟨a, b, h3, h4, h5, h6, -⟩
  · exact absurd h1.1 (h3 _)
  · have e1 : a = mMn cd f n s := Nat.le_antisymm (h5.2 _ h1.1) (h1.2.1 _ h5.1)
    have e2 : b = mMx cd f n s := Nat.le_antisymm (h2.2.1 _ h6.1) (h6.2 _ h2.1)
    rw [h3, h4, e1, e2]
    exact ⟨rfl, rfl⟩
theorem pT_0 {k : Nat} (h : pT cd f n k 0) : k = 0 := by
  cases k with
  | zero => rfl
  | succ k => exact absurd rfl h.1
theorem mNo_0 (hx : x = nI 0) (hy : y = nI 0) : x = mNo cd f n 0 (mMn cd f n 0) ∧ y = mNo cd f n 0 (mMx cd f n 0) := by
  have h0 : pT cd f n 0 0 := rfl
  have h1 := (mnv_ok (T := fun k => pT cd f n k 0) 13 0 ⟨0, by omega, by omega, h0⟩).1
  have h2 := (mxv_ok (T := fun k => pT cd f n k 0) 12 ⟨0, by omega, h0⟩).1
  have e1 : mMn cd f n 0 = 0 := pT_0 h1
  have e2 : mMx cd f n 0 = 0 := pT_0 h2
  rw [hx, hy, e1, e2, mNo, if_pos gS_z]
  exact ⟨rfl, rfl⟩
theorem mNo_n {v w : Nat} (h : ¬ gS cd f n s = 0) (hx : x = -1) (hy : y = -1) : x = mNo cd f n s v ∧ y = mNo cd f n s w := by
  unfold mNo
  rw [if_neg h, if_neg h]
  exact ⟨hx, hy⟩
end
