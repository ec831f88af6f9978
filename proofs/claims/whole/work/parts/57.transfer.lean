/-! the class's functions by the group's code alone -/
section
variable {od : Nat} {mf mf' af af' : Nat → Nat} {f : Nat → Nat}
theorem jmul_t (h : jpl od mf = jpl od mf') (a : Nat) : ∀ u, jmul od mf a u = jmul od mf' a u
  | 0 => rfl
  | u + 1 => by unfold jmul; rw [jmul_t h a u, h]
theorem msub_t (h : jpl od mf = jpl od mf') : ∀ i k, msub od mf f i k = msub od mf' f i k
  | 0, _ => rfl
  | _ + 1, 0 => rfl
  | i + 1, k + 1 => by unfold msub; rw [msub_t h i (k + 1), msub_t h i k, jmoved_pl h]
theorem msub_tf (h : jpl od mf = jpl od mf') : msub od mf f = msub od mf' f := funext fun i => funext fun k => msub_t h i k
theorem wsub_t (h : jpl od mf = jpl od mf') (h2 : jop od af = jop od af') : ∀ i k y, wsub od mf af f i k y = wsub od mf' af' f i k y
  | 0, _, _ => rfl
  | i + 1, 0, y => wsub_t h h2 i 0 y
  | i + 1, k + 1, y => by unfold wsub; rw [wsub_t h h2 i (k + 1) y, wsub_t h h2 i k, h, h2]
theorem wsub_tf (h : jpl od mf = jpl od mf') (h2 : jop od af = jop od af') : wsub od mf af f = wsub od mf' af' f := funext fun i => funext fun k => funext fun y => wsub_t h h2 i k y
theorem jls_t (h : jpl od mf = jpl od mf') (h2 : jop od af = jop od af') {M : Nat → Nat → Nat} : ∀ p l c s, jls od mf af f M p l c s = jls od mf' af' f M p l c s
  | 0, _, _, _ => rfl
  | p + 1, l, c, s => by unfold jls; rw [jls_t h h2 p l c s, h, h2, jls_t h h2 p _ _ _]
theorem jsa_t (h : jpl od mf = jpl od mf') (n : Nat) : jsa od mf f n = jsa od mf' f n := by unfold jsa; rw [jsum_pl h]
theorem jwo_t (h2 : jop od af = jop od af') (s : Nat) : ∀ g, jwo od af s g = jwo od af' s g
  | 0 => rfl
  | g + 1 => by unfold jwo; rw [jwo_t h2 s g, h2]
theorem jfnd_t (h : jpl od mf = jpl od mf') (h2 : jop od af = jop od af') (n gg : Nat) (w : Int32) : jfnd od mf af f n gg w = jfnd od mf' af' f n gg w := by unfold jfnd; rw [msub_tf h, jls_t h h2]
theorem jfree_t' (h : jpl od mf = jpl od mf') (h2 : jop od af = jop od af') (n k : Nat) : jfree od mf af f n k = jfree od mf' af' f n k := by unfold jfree; rw [msub_tf h, jsa_t h, jwo_t h2]
theorem jcs_t (h : jpl od mf = jpl od mf') (h2 : jop od af = jop od af') (el : Nat) (C : Nat → Nat) : jcs od mf af el C = jcs od mf' af' el C := by funext y; unfold jcs; rw [h, h2]
theorem jcsub_t (h : jpl od mf = jpl od mf') (h2 : jop od af = jop od af') : ∀ i, jcsub od mf af f i = jcsub od mf' af' f i
  | 0 => rfl
  | i + 1 => by unfold jcsub; rw [jcsub_t h h2 i, jcs_t h h2]
theorem jany_t (h : jpl od mf = jpl od mf') (h2 : jop od af = jop od af') (n : Nat) : ∀ i, jany od mf af f n i = jany od mf' af' f n i
  | 0 => rfl
  | i + 1 => by unfold jany; rw [jany_t h h2 n i, h2, jmoved_pl h, jmoved_pl h]
theorem jsome_t (h : jpl od mf = jpl od mf') (h2 : jop od af = jop od af') (n : Nat) : ∀ i, jsome od mf af f n i = jsome od mf' af' f n i
  | 0 => rfl
  | i + 1 => by unfold jsome; rw [jsome_t h h2 n i, jany_t h h2 n i, h2, jmoved_pl h, jmoved_pl h]
theorem jwb_t (h : jpl od mf = jpl od mf') (h2 : jop od af = jop od af') (el w sn : Nat) : jwb od mf af el w sn = jwb od mf' af' el w sn := by unfold jwb; rw [h, h2]
theorem jfs_t (h : jpl od mf = jpl od mf') (h2 : jop od af = jop od af') (Y Z : Nat → Nat) (el i w : Nat) (al : Bool) : jfs od mf af Y Z el i w al = jfs od mf' af' Y Z el i w al := by unfold jfs; rw [jwb_t h h2]
theorem jfr_tt (h : jpl od mf = jpl od mf') (h2 : jop od af = jop od af') (n gg : Nat) : ∀ i, jfr od mf af f n gg i = jfr od mf' af' f n gg i
  | 0 => rfl
  | i + 1 => by
    unfold jfr
    rw [jfr_tt h h2 n gg i]
    simp only [jfs_t h h2, jwb_t h h2, jany_t h h2, jsome_t h h2]
theorem jrn_t (h : jpl od mf = jpl od mf') (g b : Nat) : ∀ k p w, jrn od mf f g b k p w = jrn od mf' f g b k p w
  | 0, _, _ => rfl
  | k + 1, p, w => by unfold jrn; rw [h, jrn_t h g b k]
theorem jrun_t (h : jpl od mf = jpl od mf') (n g : Nat) (w : Int32) : ∀ k b, jrun od mf f n g w k b = jrun od mf' f n g w k b
  | 0, _ => rfl
  | k + 1, b => by unfold jrun; rw [jrn_t h, jrun_t h n g w k]
theorem jlku_t (h : jpl od mf = jpl od mf') (n u : Nat) : jlku od mf f n u = jlku od mf' f n u := by
  unfold jlku
  congr 1
  funext j
  exact jmul_t h _ _
theorem jlk_t (h : jpl od mf = jpl od mf') (ex n : Nat) : ∀ m, jlk od ex mf f n m = jlk od ex mf' f n m
  | 0 => rfl
  | m + 1 => by unfold jlk; rw [jlku_t h, jlk_t h ex n m]
theorem jdd_t (h : jpl od mf = jpl od mf') (ex : Nat) (q : Int32 × Nat × (Nat → Nat)) : jdd od ex mf q = jdd od ex mf' q := by
  unfold jdd
  have : ∀ u, (fun j => jmul od mf (q.2.2 j) u) = fun j => jmul od mf' (q.2.2 j) u := fun u => funext fun j => jmul_t h _ _
  rw [this]
theorem jdn_t (h : jpl od mf = jpl od mf') (ex : Nat) (q : Int32 × Nat × (Nat → Nat)) : ∀ i, jdn od ex mf q i = jdn od ex mf' q i
  | 0 => rfl
  | i + 1 => by unfold jdn; rw [jdn_t h ex q i, jdd_t h]
theorem jadd_t' (h : jpl od mf = jpl od mf') (a b : Int32) : jadd od mf a b = jadd od mf' a b := by unfold jadd; rw [h]
end
/-! sums by so many places -/
section
variable {cd : Nat} {f : Nat → Nat}
/-- a set below 2^(n+1) with the place n, or without -/
theorem set_top {n s : Nat} (h : s < 2 ^ (n + 1)) : s < 2 ^ n ∨ (s.testBit n = true ∧ s ^^^ 2 ^ n < 2 ^ n) := by
  cases q : s.testBit n with
  | false =>
    left
    refine Nat.lt_pow_two_of_testBit s fun i hi => ?_
    by_cases z : i = n
    · subst z; exact q
    · exact Nat.testBit_lt_two_pow (Nat.lt_of_lt_of_le h (Nat.pow_le_pow_right (by omega) (by omega)))
  | true =>
    right
    refine ⟨rfl, Nat.lt_pow_two_of_testBit _ fun i hi => ?_⟩
    rw [tb_xor]
    by_cases z : n = i
    · subst z; rw [q]; simp
    · rw [decide_eq_false z, Nat.testBit_lt_two_pow (Nat.lt_of_lt_of_le h (Nat.pow_le_pow_right (by omega) (show n + 1 ≤ i by omega)))]; rfl
theorem gS_top {n s : Nat} (h : s < 2 ^ n) : gS cd f (n + 1) s = gS cd f n s := by
  rw [gS_s, if_neg (by rw [Nat.testBit_lt_two_pow h]; decide)]
theorem gS_top1 {n s : Nat} (h : s.testBit n = true) : gS cd f (n + 1) s = gP cd (gS cd f n (s ^^^ 2 ^ n)) (f n) := by
  rw [gS_s, if_pos h, gS_congr (t := s ^^^ 2 ^ n) n (fun j hj => by rw [tb_xor, decide_eq_false (by omega)]; simp)]
theorem jpc_top {s n : Nat} (h : s < 2 ^ n) : ∀ i, n ≤ i → jpc s i = jpc s n
  | 0, hi => by
    obtain rfl : n = 0 := by omega
    rfl
  | i + 1, hi => by
    by_cases z : n = i + 1
    · subst z; rfl
    · show (if s.testBit i = true then jpc s i + 1 else jpc s i) = jpc s n
      rw [if_neg (by rw [Nat.testBit_lt_two_pow (Nat.lt_of_lt_of_le h (Nat.pow_le_pow_right (by omega) (show n ≤ i by omega)))]; decide)]
      exact jpc_top h i (by omega)
theorem jpc_bit {s k i : Nat} (h : s.testBit k = true) (hk : k < i) : jpc s i = jpc (s ^^^ 2 ^ k) i + 1 := by
  have h1 : (2 ^ k) &&& s = 2 ^ k := by rw [Nat.and_comm]; exact and_pow h
  have h2 := jpc_sub h1 i
  have h3 : ∀ i, k < i → jpc (2 ^ k) i = 1 := by
    intro i
    induction i with
    | zero => intro q; omega
    | succ i ih =>
      intro q
      unfold jpc
      rw [Nat.testBit_two_pow]
      by_cases z : k = i
      · subst z
        rw [if_pos (by simp)]
        have : ∀ m, m ≤ k → jpc (2 ^ k) m = 0 := by
          intro m
          induction m with
          | zero => intro _; rfl
          | succ m ihm =>
            intro hm
            unfold jpc
            rw [Nat.testBit_two_pow, decide_eq_false (by omega), if_neg (by decide)]
            exact ihm (by omega)
        rw [this k (Nat.le_refl _)]
      · rw [decide_eq_false z, if_neg (by decide)]
        exact ih (by omega)
  rw [h3 i hk] at h2
  exact h2
theorem jpc_0 : ∀ i, jpc 0 i = 0
  | 0 => rfl
  | i + 1 => by unfold jpc; rw [Nat.zero_testBit, if_neg (by decide)]; exact jpc_0 i
theorem jpc_z {s n : Nat} (h : s < 2 ^ n) (h0 : jpc s n = 0) : s = 0 := by
  apply Nat.eq_of_testBit_eq
  intro j
  rw [Nat.zero_testBit]
  cases q : s.testBit j with
  | false => rfl
  | true =>
    have := jpc_pos q n (tb_lt h q)
    omega
/-- the sums of k of the first i places -/
theorem msub_set (h : cd ∈ jcodes) (h0 : 0 < god cd) : ∀ i k g, g < god cd → (∀ j, j < i → f j < god cd) → ((msub (god cd) (jmf cd) f i k).testBit g = true ↔ ∃ s, s < 2 ^ i ∧ jpc s i = k ∧ gS cd f i s = g)
  | 0, k, g, hg, _ => by
    unfold msub
    constructor
    · intro q
      by_cases z : k = 0
      · rw [if_pos z] at q
        have : g = 0 := Nat.testBit_one_eq_true_iff_self_eq_zero.mp q
        exact ⟨0, by decide, z.symm, this.symm⟩
      · rw [if_neg z, Nat.zero_testBit] at q; cases q
    · rintro ⟨s, h1, h2, h3⟩
      have hk : k = 0 := h2.symm
      have hgz : g = 0 := h3.symm
      subst hk; subst hgz
      rfl
  | i + 1, 0, g, hg, hf => by
    show (1 : Nat).testBit g = true ↔ _
    rw [Nat.testBit_one_eq_true_iff_self_eq_zero]
    constructor
    · intro q
      subst q
      exact ⟨0, Nat.two_pow_pos _, jpc_0 _, gS_z⟩
    · rintro ⟨s, h1, h2, h3⟩
      have := jpc_z h1 h2
      subst this
      rw [gS_z] at h3
      exact h3.symm
  | i + 1, k + 1, g, hg, hf => by
    have ih1 := msub_set h h0 i (k + 1) g hg (fun j hj => hf j (by omega))
    unfold msub
    rw [Nat.testBit_or, Bool.or_eq_true, ih1, jmoved_tb (god cd)]
    constructor
    · rintro (⟨s, h1, h2, h3⟩ | ⟨a, h1, h2, h3⟩)
      · refine ⟨s, Nat.lt_of_lt_of_le h1 (Nat.pow_le_pow_right (by omega) (by omega)), ?_, ?_⟩
        · rw [jpc_top h1 (i + 1) (by omega), h2]
        · rw [gS_top h1, h3]
      · obtain ⟨s, h4, h5, h6⟩ := (msub_set h h0 i k a h1 (fun j hj => hf j (by omega))).mp h2
        have hb : s.testBit i = false := Nat.testBit_lt_two_pow h4
        have hx : (s ||| 2 ^ i) ^^^ 2 ^ i = s := by
          rw [por_xor hb]
          apply Nat.eq_of_testBit_eq
          intro j
          rw [tb_xor, tb_xor]
          cases s.testBit j <;> cases decide (i = j) <;> rfl
        have ht : (s ||| 2 ^ i).testBit i = true := by rw [Nat.testBit_or, Nat.testBit_two_pow]; simp
        refine ⟨s ||| 2 ^ i, ?_, ?_, ?_⟩
        · exact Nat.or_lt_two_pow (Nat.lt_of_lt_of_le h4 (Nat.pow_le_pow_right (by omega) (by omega))) (Nat.pow_lt_pow_right (by omega) (by omega))
        · rw [jpc_bit ht (by omega), hx, jpc_top h4 (i + 1) (by omega), h5]
        · rw [gS_top1 ht, hx, h6]; exact h3
    · rintro ⟨s, h1, h2, h3⟩
      rcases set_top h1 with h4 | ⟨h4, h5⟩
      · refine Or.inl ⟨s, h4, ?_, ?_⟩
        · rw [← jpc_top h4 (i + 1) (by omega), h2]
        · rw [← gS_top h4, h3]
      · refine Or.inr ⟨gS cd f i (s ^^^ 2 ^ i), gS_lt h h0 _ i (fun j hj => hf j (by omega)), ?_, ?_⟩
        · refine (msub_set h h0 i k _ (gS_lt h h0 _ i (fun j hj => hf j (by omega))) (fun j hj => hf j (by omega))).mpr ⟨s ^^^ 2 ^ i, h5, ?_, rfl⟩
          have := jpc_bit h4 (show i < i + 1 by omega)
          rw [jpc_top h5 (i + 1) (by omega)] at this
          omega
        · rw [← h3, gS_top1 h4]; rfl
theorem jors_tb {F : Nat → Nat} {g : Nat} : ∀ k, (jors F k).testBit g = true ↔ ∃ j, 1 ≤ j ∧ j ≤ k ∧ (F j).testBit g = true
  | 0 => by
    constructor
    · intro q; rw [jors, Nat.zero_testBit] at q; cases q
    · rintro ⟨j, h1, h2, _⟩; omega
  | k + 1 => by
    unfold jors
    rw [Nat.testBit_or, Bool.or_eq_true, jors_tb k]
    constructor
    · rintro (⟨j, h1, h2, h3⟩ | h1)
      · exact ⟨j, h1, by omega, h3⟩
      · exact ⟨k + 1, by omega, Nat.le_refl _, h1⟩
    · rintro ⟨j, h1, h2, h3⟩
      by_cases z : j = k + 1
      · subst z; exact Or.inr h3
      · exact Or.inl ⟨j, h1, by omega, h3⟩
theorem mors_tb {F : Nat → Nat} {g : Nat} : ∀ k, (mors F k).testBit g = true ↔ ∃ s, 1 ≤ s ∧ s ≤ k ∧ F s = g
  | 0 => by
    constructor
    · intro q; rw [mors, Nat.zero_testBit] at q; cases q
    · rintro ⟨j, h1, h2, _⟩; omega
  | k + 1 => by
    unfold mors
    rw [Nat.testBit_or, Bool.or_eq_true, mors_tb k, Nat.one_shiftLeft, Nat.testBit_two_pow, decide_eq_true_eq]
    constructor
    · rintro (⟨j, h1, h2, h3⟩ | h1)
      · exact ⟨j, h1, by omega, h3⟩
      · exact ⟨k + 1, by omega, Nat.le_refl _, h1⟩
    · rintro ⟨j, h1, h2, h3⟩
      by_cases z : j = k + 1
      · subst z; exact Or.inr h3
      · exact Or.inl ⟨j, h1, by omega, h3⟩
end
