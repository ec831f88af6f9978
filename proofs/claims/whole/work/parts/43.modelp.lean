/-! free multisets and enough, of the model -/
theorem jmoved_tb {od : Nat} {mf : Nat → Nat} {s g y : Nat} : ∀ e, (jmoved od mf s g e).testBit y = true ↔ ∃ a, a < e ∧ s.testBit a = true ∧ jpl od mf a g = y
  | 0 => by
    constructor
    · intro h
      rw [jmoved, Nat.zero_testBit] at h
      cases h
    · rintro ⟨a, h, _⟩
      exact absurd h (Nat.not_lt_zero _)
  | e + 1 => by
    have ih := jmoved_tb (od := od) (mf := mf) (s := s) (g := g) (y := y) e
    unfold jmoved
    by_cases q : s.testBit e = true
    · rw [if_pos q, Nat.testBit_or, Bool.or_eq_true, ih, Nat.one_shiftLeft, Nat.testBit_two_pow, decide_eq_true_eq]
      constructor
      · rintro (⟨a, h1, h2⟩ | h)
        · exact ⟨a, by omega, h2⟩
        · exact ⟨e, by omega, q, h⟩
      · rintro ⟨a, h1, h2, h3⟩
        by_cases z : a = e
        · subst z; exact Or.inr h3
        · exact Or.inl ⟨a, by omega, h2, h3⟩
    · rw [if_neg q, ih]
      constructor
      · rintro ⟨a, h1, h2⟩
        exact ⟨a, by omega, h2⟩
      · rintro ⟨a, h1, h2, h3⟩
        by_cases z : a = e
        · subst z; exact absurd h2 q
        · exact ⟨a, by omega, h2, h3⟩
theorem gex_mul : ∀ cd ∈ jcodes, ∀ g, g < god cd → jpl (god cd) (jmf cd) (jmul (god cd) (jmf cd) g (gex cd - 1)) g = 0 := by decide +kernel
theorem jmul_ex {cd g : Nat} (h : cd ∈ jcodes) (hg : g < god cd) : jmul (god cd) (jmf cd) g (gex cd) = 0 := by
  have h0 : cd ≠ 0 := fun z => by subst z; have : god 0 = 0 := (by decide +kernel); omega
  have h1 := gex_pos cd h h0
  have h2 := gex_mul cd h g hg
  obtain ⟨e, he⟩ : ∃ e, gex cd = e + 1 := ⟨gex cd - 1, by omega⟩
  rw [he, Nat.add_sub_cancel] at h2
  rw [he]
  exact h2
theorem gN_mul {cd g : Nat} (h : cd ∈ jcodes) (hg : g < god cd) : jmul (god cd) (jmf cd) g (gex cd - 1) = gN cd g := by
  refine gN_uniq h hg (jmul_lt h hg _) ?_
  rw [gP_comm h]
  exact gex_mul cd h g hg
/-- a place more, one sum more at least -/
theorem grow_card {cd g sm : Nat} (h : cd ∈ jcodes) (hg : g < god cd) (h0 : g ≠ 0) (hs : sm.testBit (gN cd g) = false) : jpc (sm ||| 1) (god cd) + 1 ≤ jpc (((sm ||| jmoved (god cd) (jmf cd) sm g (god cd)) ||| 1 <<< g) ||| 1) (god cd) := by
  have hsub : (sm ||| 1) &&& (((sm ||| jmoved (god cd) (jmf cd) sm g (god cd)) ||| 1 <<< g) ||| 1) = sm ||| 1 := sub_of fun j hj => by
    rw [Nat.testBit_or, Bool.or_eq_true] at hj
    rw [Nat.testBit_or, Nat.testBit_or, Nat.testBit_or]
    rcases hj with hj | hj <;> rw [hj] <;> simp
  have hdiff : ∃ y, y < god cd ∧ (sm ||| 1).testBit y = false ∧ (((sm ||| jmoved (god cd) (jmf cd) sm g (god cd)) ||| 1 <<< g) ||| 1).testBit y = true := by
    apply Classical.byContradiction
    intro hn
    have hcl : ∀ t, t < god cd → (sm ||| 1).testBit t = true → (sm ||| 1).testBit (gP cd t g) = true := by
      intro t ht h1
      cases q : (sm ||| 1).testBit (gP cd t g) with
      | true => rfl
      | false =>
        refine absurd ⟨gP cd t g, gP_lt h ht hg, q, ?_⟩ hn
        rw [Nat.testBit_or, Bool.or_eq_true] at h1
        rw [Nat.testBit_or, Nat.testBit_or, Nat.testBit_or]
        rcases h1 with h1 | h1
        · rw [show (jmoved (god cd) (jmf cd) sm g (god cd)).testBit (gP cd t g) = true from (jmoved_tb (god cd)).mpr ⟨t, ht, h1, rfl⟩]; simp
        · have h2 : t = 0 := by
            rw [Nat.testBit_one_eq_true_iff_self_eq_zero] at h1
            exact h1
          subst h2
          rw [gP_0l h hg, Nat.one_shiftLeft, Nat.testBit_two_pow]; simp
    have hall : ∀ k, (sm ||| 1).testBit (jmul (god cd) (jmf cd) g k) = true := by
      intro k
      induction k with
      | zero => rw [jmul, Nat.testBit_or]; simp
      | succ k ih => exact hcl _ (jmul_lt h hg k) ih
    have h1 := hall (gex cd - 1)
    rw [gN_mul h hg, Nat.testBit_or, hs, Bool.false_or, Nat.testBit_one_eq_true_iff_self_eq_zero] at h1
    have h2 := gN_N h hg
    rw [h1, gN_0 h (by omega)] at h2
    exact h0 h2.symm
  obtain ⟨y, hy, h1, h2⟩ := hdiff
  have h3 := jpc_sub hsub (god cd)
  have h4 := jpc_pos (k := y) (a := (((sm ||| jmoved (god cd) (jmf cd) sm g (god cd)) ||| 1 <<< g) ||| 1) ^^^ (sm ||| 1)) (by rw [Nat.testBit_xor, h1, h2]; rfl) (god cd) hy
  omega
theorem mgr_or {a b c : Nat} : (a ||| b) ||| c = (a ||| c) ||| b := by rw [Nat.or_assoc, Nat.or_comm b c, ← Nat.or_assoc]
/-- what the sums of k places are with one element more -/
def mnx (cd g : Nat) (A : Nat → Nat) (k : Nat) : Nat := A k ||| (if 0 < k then jmoved (god cd) (jmf cd) (A (k - 1)) g (god cd) else 0)
def mwl (F : Nat → Nat → Nat) : Nat → Nat → Nat → Nat
  | 0, _, m => m
  | c + 1, g, m => mwl F c (g + 1) (F g m)
/-- the most places of a row, as it goes on, of which no so many make nought -/
def mwt (cd so : Nat) : Nat → Nat → Nat → (Nat → Nat) → Nat
  | 0, n, _, _ => n
  | c + 1, n, la, A => mwl (fun g m => if (mnx cd g A so).testBit 0 then m else max m (mwt cd so c (n + 1) g (mnx cd g A))) (god cd - la) la n
theorem mwl_0 {F : Nat → Nat → Nat} {od g m : Nat} (h : od ≤ g) : mwl F (od - g) g m = m := by rw [show od - g = 0 by omega]; rfl
theorem mwl_s {F : Nat → Nat → Nat} {od g m : Nat} (h : g < od) : mwl F (od - g) g m = mwl F (od - (g + 1)) (g + 1) (F g m) := by rw [show od - g = (od - (g + 1)) + 1 by omega]; rfl
def jcsm (c : Nat → Nat) : Nat → Nat
  | 0 => 0
  | x + 1 => jcsm c x + c x
theorem jcsm_up {c : Nat → Nat} {g v : Nat} : ∀ od, jcsm (va_up c g v) od + (if g < od then c g else 0) = jcsm c od + (if g < od then v else 0)
  | 0 => by simp [jcsm]
  | od + 1 => by
    have ih := jcsm_up (c := c) (g := g) (v := v) od
    unfold jcsm
    by_cases z : g = od
    · subst z
      rw [up_at]
      simp at ih ⊢
      omega
    · rw [up_ne (fun q => z q.symm)]
      by_cases q : g < od
      · rw [if_pos q, if_pos q] at ih
        rw [if_pos (by omega), if_pos (by omega)]
        omega
      · rw [if_neg q, if_neg q] at ih
        rw [if_neg (by omega), if_neg (by omega)]
        omega
theorem jcsm_le {c : Nat → Nat} {m : Nat} : ∀ od, (∀ x, x < od → c x ≤ m) → jcsm c od ≤ od * m
  | 0, _ => by show 0 ≤ _; omega
  | od + 1, h => by
    have ih := jcsm_le od (fun x hx => h x (by omega))
    have := h od (by omega)
    unfold jcsm
    rw [Nat.succ_mul]
    omega
/-- how often each element stands in the row, and what that makes -/
def mCn (cd so n : Nat) (A c : Nat → Nat) : Prop := jcsm c (god cd) = n ∧ ∀ x, x < god cd → c x < so ∧ (A (c x)).testBit (jmul (god cd) (jmf cd) x (c x)) = true
theorem mCn_s {cd so n g : Nat} {A c : Nat → Nat} (h : cd ∈ jcodes) (hso : so = gex cd) (hg : g < god cd) (hc : mCn cd so n A c) (hz : (mnx cd g A so).testBit 0 = false) : mCn cd so (n + 1) (mnx cd g A) (va_up c g (c g + 1)) := by
  obtain ⟨h1, h2⟩ := hc
  have hb : (mnx cd g A (c g + 1)).testBit (jmul (god cd) (jmf cd) g (c g + 1)) = true := by
    unfold mnx
    rw [if_pos (by omega), Nat.add_sub_cancel, Nat.testBit_or, show (jmoved (god cd) (jmf cd) (A (c g)) g (god cd)).testBit (jmul (god cd) (jmf cd) g (c g + 1)) = true from (jmoved_tb (god cd)).mpr ⟨_, jmul_lt h hg (c g), (h2 g hg).2, rfl⟩]
    simp
  have hlt : c g + 1 < so := by
    have := (h2 g hg).1
    rcases Nat.lt_or_ge (c g + 1) so with z | z
    · exact z
    · exfalso
      have e1 : c g + 1 = so := by omega
      rw [e1, hso, jmul_ex h hg, ← hso, hz] at hb
      cases hb
  refine ⟨?_, fun x hx => ?_⟩
  · have := jcsm_up (c := c) (g := g) (v := c g + 1) (god cd)
    rw [if_pos hg, if_pos hg, h1] at this
    omega
  · by_cases z : x = g
    · subst z; rw [up_at]; exact ⟨hlt, hb⟩
    · rw [up_ne z]
      refine ⟨(h2 x hx).1, ?_⟩
      unfold mnx
      rw [Nat.testBit_or, (h2 x hx).2]
      rfl
theorem mCn_le {cd so n : Nat} {A c : Nat → Nat} (h : cd ∈ jcodes) (h6 : god cd ≤ 6) (hso : so ≤ 6) (hc : mCn cd so n A c) : n ≤ 30 := by
  have h1 := jcsm_le (c := c) (m := 5) (god cd) (fun x hx => by have := (hc.2 x hx).1; omega)
  rw [hc.1] at h1
  omega
theorem mnx_lt {cd g : Nat} {A : Nat → Nat} {k : Nat} (h : cd ∈ jcodes) (hA : A k < 2 ^ 24) : mnx cd g A k < 2 ^ 24 := by
  unfold mnx
  refine Nat.or_lt_two_pow hA ?_
  split
  · exact jmoved_lt (jtab_cd h) _ _ _
  · exact Nat.two_pow_pos 24
theorem mwt_le {cd so : Nat} : ∀ c n la A, n ≤ mwt cd so c n la A ∧ mwt cd so c n la A ≤ n + c
  | 0, n, _, _ => ⟨Nat.le_refl _, Nat.le_refl _⟩
  | c + 1, n, la, A => by
    have key : ∀ k g m, n ≤ m → m ≤ n + (c + 1) → n ≤ mwl (fun g m => if (mnx cd g A so).testBit 0 then m else max m (mwt cd so c (n + 1) g (mnx cd g A))) k g m ∧ mwl (fun g m => if (mnx cd g A so).testBit 0 then m else max m (mwt cd so c (n + 1) g (mnx cd g A))) k g m ≤ n + (c + 1) := by
      intro k
      induction k with
      | zero => intro g m h1 h2; exact ⟨h1, h2⟩
      | succ k ih =>
        intro g m h1 h2
        refine ih (g + 1) _ ?_ ?_
        · show n ≤ if _ then m else max m _
          split
          · exact h1
          · exact Nat.le_trans h1 (Nat.le_max_left _ _)
        · show (if _ then m else max m _) ≤ n + (c + 1)
          split
          · exact h2
          · exact Nat.max_le.mpr ⟨h2, by have := mwt_le (cd := cd) (so := so) c (n + 1) g (mnx cd g A); omega⟩
    exact key _ _ _ (Nat.le_refl _) (by omega)
theorem mT_ag {cd : Nat} {C : Nat → Nat} (h : ∀ k, k < 13 → C k = 0) : mAg (mgr (god cd) (jmf cd) (jaf cd) 12 [] (max 0 1) 0 (C, [])) (mT cd) := mgr_ag 12 [] 1 0 _ _ rfl ⟨h, rfl⟩
theorem gex_le : ∀ cd ∈ jcodes, gex cd ≤ god cd := by decide +kernel
theorem mCn_0 {cd so : Nat} (h : 1 ≤ so) : mCn cd so 0 (fun k => if k = 0 then 1 else 0) (fun _ => 0) := by
  refine ⟨?_, fun x _ => ⟨by show 0 < so; omega, by show (if (0 : Nat) = 0 then 1 else 0 : Nat).testBit 0 = true; decide⟩⟩
  generalize god cd = od
  induction od with
  | zero => rfl
  | succ od ih => exact ih
