/-! enough: the rule of the class against the search of the model -/
def pM : Nat := (2 ^ 42 - 1) / 63
theorem pM_tb (j : Nat) : pM.testBit j = (decide (j % 6 = 0) && decide (j < 42)) := by
  by_cases z : j < 42
  · have : ∀ j, j < 42 → pM.testBit j = (decide (j % 6 = 0) && decide (j < 42)) := by decide +kernel
    exact this j z
  · have h0 : pM < 2 ^ j := Nat.lt_of_lt_of_le (show pM < 2 ^ 42 by decide +kernel) (Nat.pow_le_pow_right (by omega) (by omega))
    rw [Nat.testBit_lt_two_pow h0, decide_eq_false z, Bool.and_false]
def pmv (od : Nat) (mf : Nat → Nat) (g P : Nat) : Nat → Nat
  | 0 => 0
  | a + 1 => pmv od mf g P a ||| (((P >>> a) &&& pM) <<< jpl od mf a g)
def pnx (od : Nat) (mf : Nat → Nat) (g P : Nat) : Nat := P ||| (pmv od mf g P od) <<< 6
theorem pmv_tb {od : Nat} {mf : Nat → Nat} {g P : Nat} (ho : od ≤ 6) (hl : ∀ a, a < od → jpl od mf a g < od) {k y : Nat} (hk : k < 7) (hy : y < 6) : ∀ e, e ≤ od → ((pmv od mf g P e).testBit (6 * k + y) = true ↔ ∃ a, a < e ∧ P.testBit (6 * k + a) = true ∧ jpl od mf a g = y)
  | 0, _ => by
    constructor
    · intro h
      rw [pmv, Nat.zero_testBit] at h
      cases h
    · rintro ⟨a, h, _⟩
      exact absurd h (Nat.not_lt_zero _)
  | e + 1, he => by
    have ih := pmv_tb (P := P) ho hl hk hy e (by omega)
    have hb := hl e (by omega)
    have key : (((P >>> e) &&& pM) <<< jpl od mf e g).testBit (6 * k + y) = true ↔ P.testBit (6 * k + e) = true ∧ jpl od mf e g = y := by
      rw [Nat.testBit_shiftLeft, Nat.testBit_and, Nat.testBit_shiftRight, pM_tb]
      simp only [Bool.and_eq_true, decide_eq_true_eq]
      constructor
      · rintro ⟨h1, h2, h3, h4⟩
        have e1 : jpl od mf e g = y := by omega
        refine ⟨?_, e1⟩
        rw [e1, show e + (6 * k + y - y) = 6 * k + e by omega] at h2
        exact h2
      · rintro ⟨h1, h2⟩
        rw [h2, show e + (6 * k + y - y) = 6 * k + e by omega, show 6 * k + y - y = 6 * k by omega]
        exact ⟨by omega, h1, by omega, by omega⟩
    unfold pmv
    rw [Nat.testBit_or, Bool.or_eq_true, ih, key]
    constructor
    · rintro (⟨a, h1, h2⟩ | ⟨h1, h2⟩)
      · exact ⟨a, by omega, h2⟩
      · exact ⟨e, by omega, h1, h2⟩
    · rintro ⟨a, h1, h2, h3⟩
      by_cases z : a = e
      · subst z; exact Or.inr ⟨h2, h3⟩
      · exact Or.inl ⟨a, by omega, h2, h3⟩
def pRel (so P : Nat) (A : Nat → Nat) : Prop := ∀ k, k ≤ so → ∀ y, y < 6 → P.testBit (6 * k + y) = (A k).testBit y
theorem pRel_nx {cd so g P : Nat} {A : Nat → Nat} (h : cd ∈ jcodes) (ho : god cd ≤ 6) (hso : so ≤ 6) (hg : g < god cd) (hr : pRel so P A) : pRel so (pnx (god cd) (jmf cd) g P) (mnx cd g A) := by
  intro k hk y hy
  unfold pnx mnx
  rw [Nat.testBit_or, Nat.testBit_or, hr k hk y hy, Nat.testBit_shiftLeft]
  cases k with
  | zero =>
    rw [if_neg (by omega), Nat.zero_testBit, decide_eq_false (by omega), Bool.false_and]
  | succ k =>
    rw [if_pos (by omega), decide_eq_true (by omega), Bool.true_and, show 6 * (k + 1) + y - 6 = 6 * k + y by omega]
    congr 1
    rw [Bool.eq_iff_iff, pmv_tb (P := P) ho (fun a ha => gP_lt h ha hg) (show k < 7 by omega) hy (god cd) (Nat.le_refl _), show k + 1 - 1 = k by omega, jmoved_tb]
    constructor
    · rintro ⟨a, h1, h2, h3⟩
      exact ⟨a, h1, by rw [← hr k (by omega) a (by omega)]; exact h2, h3⟩
    · rintro ⟨a, h1, h2, h3⟩
      exact ⟨a, h1, by rw [hr k (by omega) a (by omega)]; exact h2, h3⟩
def pwt (od : Nat) (mf : Nat → Nat) (so : Nat) : Nat → Nat → Nat → Nat → Nat
  | 0, n, _, _ => n
  | c + 1, n, la, P => mwl (fun g m => if (pnx od mf g P).testBit (6 * so) then m else max m (pwt od mf so c (n + 1) g (pnx od mf g P))) (od - la) la n
theorem mwl_eq {F G : Nat → Nat → Nat} {od : Nat} (h : ∀ g m, g < od → F g m = G g m) : ∀ k g m, g + k ≤ od → mwl F k g m = mwl G k g m
  | 0, _, _, _ => rfl
  | k + 1, g, m, hk => by
    unfold mwl
    rw [h g m (by omega)]
    exact mwl_eq h k (g + 1) (G g m) (by omega)
theorem mwt_pwt {cd so : Nat} (h : cd ∈ jcodes) (ho : god cd ≤ 6) (hso : so ≤ 6) : ∀ c n la P A, pRel so P A → la ≤ god cd → mwt cd so c n la A = pwt (god cd) (jmf cd) so c n la P
  | 0, _, _, _, _, _, _ => rfl
  | c + 1, n, la, P, A, hr, hla => by
    unfold mwt pwt
    refine mwl_eq (od := god cd) (fun g m hg => ?_) _ _ _ (by omega)
    have hn := pRel_nx h ho hso hg hr
    have ht := hn so (Nat.le_refl _) 0 (by omega)
    rw [Nat.add_zero] at ht
    rw [← ht, mwt_pwt h ho hso c (n + 1) g _ _ hn (by omega)]
theorem pwt_all : ∀ cd ∈ jcodes, 1 ≤ god cd → god cd ≤ 6 → gex cd ≤ 6 ∧ pwt (god cd) (jmf cd) (gex cd) 31 0 0 1 + 1 = 2 * (god cd / gex cd) + 2 * gex cd - 3 := by decide +kernel
theorem enough_eq {cd : Nat} (h : cd ∈ jcodes) (h1 : 1 ≤ god cd) (h6 : god cd ≤ 6) : mwt cd (gex cd) 31 0 0 (fun k => if k = 0 then 1 else 0) + 1 = 2 * (god cd / gex cd) + 2 * gex cd - 3 := by
  obtain ⟨h2, h3⟩ := pwt_all cd h h1 h6
  rw [← h3, mwt_pwt h h6 h2 31 0 0 1 _ ?_ (by omega)]
  intro k hk y hy
  cases k with
  | zero => show (1 : Nat).testBit (6 * 0 + y) = (1 : Nat).testBit y; rw [Nat.mul_zero, Nat.zero_add]
  | succ k =>
    show (1 : Nat).testBit (6 * (k + 1) + y) = (0 : Nat).testBit y
    rw [Nat.zero_testBit]
    cases q : (1 : Nat).testBit (6 * (k + 1) + y) with
    | false => rfl
    | true =>
      have := Nat.testBit_one_eq_true_iff_self_eq_zero.mp q
      omega
