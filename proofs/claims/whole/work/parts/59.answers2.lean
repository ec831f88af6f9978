/-! the answers of both: ways -/
def cN (T : Nat → Bool) : Nat → Nat
  | 0 => 0
  | N + 1 => if T N then cN T N + 1 else cN T N
theorem cN_congr {T T' : Nat → Bool} : ∀ N, (∀ s, s < N → T s = T' s) → cN T N = cN T' N
  | 0, _ => rfl
  | N + 1, h => by unfold cN; rw [cN_congr N (fun s hs => h s (by omega)), h N (by omega)]
theorem cN_add {T : Nat → Bool} {a : Nat} : ∀ b, cN T (a + b) = cN T a + cN (fun s => T (a + s)) b
  | 0 => rfl
  | b + 1 => by
    show (if T (a + b) then cN T (a + b) + 1 else cN T (a + b)) = cN T a + (if T (a + b) then cN (fun s => T (a + s)) b + 1 else cN (fun s => T (a + s)) b)
    rw [cN_add b]
    split <;> omega
theorem cN_0 {T : Nat → Bool} : ∀ N, (∀ s, s < N → T s = false) → cN T N = 0
  | 0, _ => rfl
  | N + 1, h => by unfold cN; rw [h N (by omega), if_neg (by decide), cN_0 N (fun s hs => h s (by omega))]
theorem mcnt_cN {T : Nat → Bool} : ∀ N, cN T (N + 1) = (if T 0 then 1 else 0) + mcnt T N
  | 0 => by
    show (if T 0 then 0 + 1 else 0) = _ + 0
    split <;> rfl
  | N + 1 => by
    show (if T (N + 1) then cN T (N + 1) + 1 else cN T (N + 1)) = _ + (if T (N + 1) then mcnt T N + 1 else mcnt T N)
    rw [mcnt_cN N]
    split <;> split <;> omega
theorem mcnt_congr {T T' : Nat → Bool} : ∀ N, (∀ s, 1 ≤ s → s ≤ N → T s = T' s) → mcnt T N = mcnt T' N
  | 0, _ => rfl
  | N + 1, h => by unfold mcnt; rw [mcnt_congr N (fun s h1 h2 => h s h1 (by omega)), h (N + 1) (by omega) (Nat.le_refl _)]
theorem cN_or {T U : Nat → Bool} : ∀ N, (∀ s, s < N → ¬ (T s = true ∧ U s = true)) → cN (fun s => T s || U s) N = cN T N + cN U N
  | 0, _ => rfl
  | N + 1, h => by
    have ih := cN_or N (fun s hs => h s (by omega))
    have h1 := h N (by omega)
    unfold cN
    rw [ih]
    cases hT : T N <;> cases hU : U N
    · simp
    · simp; omega
    · simp; omega
    · exact absurd ⟨hT, hU⟩ h1
section
variable {cd : Nat} {f : Nat → Nat}
theorem gS_add {i s : Nat} (h : s < 2 ^ i) : gS cd f (i + 1) (2 ^ i + s) = gP cd (gS cd f i s) (f i) ∧ jpc (2 ^ i + s) (i + 1) = jpc s i + 1 := by
  have hs : s.testBit i = false := Nat.testBit_lt_two_pow h
  have ht : (2 ^ i ||| s).testBit i = true := by rw [Nat.testBit_or, Nat.testBit_two_pow]; simp
  have hx : (2 ^ i ||| s) ^^^ 2 ^ i = s := by
    apply Nat.eq_of_testBit_eq
    intro j
    rw [tb_xor, Nat.testBit_or, Nat.testBit_two_pow]
    by_cases w : i = j
    · subst w; rw [hs]; simp
    · rw [decide_eq_false w]; simp
  rw [← or_add h]
  constructor
  · rw [gS_top1 ht, hx]
  · rw [jpc_bit ht (by omega), hx, jpc_top h (i + 1) (by omega)]
def cT (cd : Nat) (f : Nat → Nat) (i k y s : Nat) : Bool := decide (gS cd f i s = y) && decide (jpc s i = k)
theorem wsub_cN (h : cd ∈ jcodes) (h0 : 0 < god cd) : ∀ i k y, y < god cd → (∀ j, j < i → f j < god cd) → wsub (god cd) (jmf cd) (jaf cd) f i k y = cN (cT cd f i k y) (2 ^ i)
  | 0, k, y, _, _ => by
    show (if k = 0 ∧ y = 0 then 1 else 0) = (if cT cd f 0 k y 0 then 0 + 1 else 0)
    have e : cT cd f 0 k y 0 = decide (k = 0 ∧ y = 0) := by
      show (decide ((0 : Nat) = y) && decide ((0 : Nat) = k)) = _
      by_cases a : k = 0 <;> by_cases b : y = 0 <;> simp [a, b, Ne.symm, eq_comm]
    rw [e]
    by_cases a : k = 0 ∧ y = 0
    · rw [if_pos a, decide_eq_true a]; rfl
    · rw [if_neg a, decide_eq_false a]; rfl
  | i + 1, 0, y, hy, hf => by
    show wsub (god cd) (jmf cd) (jaf cd) f i 0 y = _
    rw [wsub_cN h h0 i 0 y hy (fun j hj => hf j (by omega)), Nat.pow_succ, Nat.mul_two, cN_add, cN_0 (T := fun s => cT cd f (i + 1) 0 y (2 ^ i + s))]
    · rw [Nat.add_zero]
      refine cN_congr _ (fun s hs => ?_)
      unfold cT
      rw [gS_top hs, jpc_top hs (i + 1) (by omega)]
    · intro s hs
      unfold cT
      rw [(gS_add (cd := cd) (f := f) hs).2, decide_eq_false (show ¬ (jpc s i + 1 = 0) by omega), Bool.and_false]
  | i + 1, k + 1, y, hy, hf => by
    have hfi := hf i (by omega)
    have hn := gN_in h hfi
    unfold wsub
    rw [wsub_cN h h0 i (k + 1) y hy (fun j hj => hf j (by omega)), show jpl (god cd) (jmf cd) y (jop (god cd) (jaf cd) (f i)) = gP cd y (gN cd (f i)) from rfl, wsub_cN h h0 i k _ (gP_lt h hy hn.1) (fun j hj => hf j (by omega)), Nat.pow_succ, Nat.mul_two, cN_add]
    congr 1
    · refine cN_congr _ (fun s hs => ?_)
      unfold cT
      rw [gS_top hs, jpc_top hs (i + 1) (by omega)]
    · refine cN_congr _ (fun s hs => ?_)
      have hl := gS_lt (f := f) h h0 s i (fun j hj => hf j (by omega))
      unfold cT
      rw [(gS_add hs).1, (gS_add (cd := cd) (f := f) hs).2]
      congr 1
      · apply decide_eq_decide.mpr
        constructor
        · intro q; rw [q, gP_can2 h hfi hy]
        · intro q; rw [← q, gP_can h hfi hl]
      · apply decide_eq_decide.mpr
        omega
theorem jws_cN (h : cd ∈ jcodes) (h0 : 0 < god cd) {n y : Nat} (hy : y < god cd) (hf : ∀ j, j < n → f j < god cd) : ∀ m, jws (wsub (god cd) (jmf cd) (jaf cd) f n) y m = cN (fun s => decide (gS cd f n s = y) && decide (1 ≤ jpc s n ∧ jpc s n ≤ m)) (2 ^ n)
  | 0 => by
    rw [cN_0 _ (fun s hs => by rw [decide_eq_false (show ¬ (1 ≤ jpc s n ∧ jpc s n ≤ 0) by omega), Bool.and_false])]
    rfl
  | m + 1 => by
    unfold jws
    rw [jws_cN h h0 hy hf m, wsub_cN h h0 n (m + 1) y hy hf, ← cN_or]
    · refine cN_congr _ (fun s hs => ?_)
      unfold cT
      by_cases a : gS cd f n s = y
      · rw [decide_eq_true a, Bool.true_and, Bool.true_and, Bool.true_and, ← Bool.decide_or]
        apply decide_eq_decide.mpr
        omega
      · rw [decide_eq_false a]; rfl
    · intro s hs
      unfold cT
      simp only [Bool.and_eq_true, decide_eq_true_eq]
      omega
theorem ways_eq (h : cd ∈ jcodes) {n gg k : Nat} (hn : n ≤ 12) (hf : ∀ j, j < n → f j < god cd) (hg : gg < god cd) (hk : k ≤ n) :
    (if 0 < k then wsub (god cd) (jmf cd) (jaf cd) f n k gg else jws (wsub (god cd) (jmf cd) (jaf cd) f n) gg 12) = mcnt (mTk cd f n gg k) (2 ^ n - 1) := by
  have h0 : 0 < god cd := by omega
  have hp := Nat.two_pow_pos n
  have e : 2 ^ n = (2 ^ n - 1) + 1 := by omega
  by_cases z : 0 < k
  · rw [if_pos z, wsub_cN h h0 n k gg hg hf, e, mcnt_cN]
    have e0 : cT cd f n k gg 0 = false := by unfold cT; rw [jpc_0, decide_eq_false (show ¬ 0 = k by omega), Bool.and_false]
    rw [e0, if_neg (by decide), Nat.zero_add]
    refine mcnt_congr _ (fun s h1 h2 => ?_)
    unfold cT mTk
    rw [decide_eq_false (show ¬ k = 0 by omega), Bool.false_or, jpc_n hn (by omega)]
  · rw [if_neg z, jws_cN h h0 hg hf 12, e, mcnt_cN]
    have e0 : (decide (gS cd f n 0 = gg) && decide (1 ≤ jpc 0 n ∧ jpc 0 n ≤ 12)) = false := by rw [jpc_0, decide_eq_false (show ¬ (1 ≤ 0 ∧ 0 ≤ 12) by omega), Bool.and_false]
    rw [e0, if_neg (by decide), Nat.zero_add]
    refine mcnt_congr _ (fun s h1 h2 => ?_)
    unfold mTk
    have hj := jpc_le s n
    have hj1 : 1 ≤ jpc s n := by
      rcases Nat.eq_zero_or_pos (jpc s n) with w | w
      · have := jpc_z (n := n) (by omega) w; omega
      · exact w
    rw [decide_eq_true (show k = 0 by omega), Bool.true_or, decide_eq_true (show 1 ≤ jpc s n ∧ jpc s n ≤ 12 by omega)]
/-! free -/
theorem and_all {t n : Nat} : t &&& (2 ^ n - 1) = t ↔ t < 2 ^ n := by
  rw [Nat.and_two_pow_sub_one_eq_mod]
  constructor
  · intro q; rw [← q]; exact Nat.mod_lt _ (Nat.two_pow_pos n)
  · intro q; exact Nat.mod_eq_of_lt q
theorem zB_all {n : Nat} : zB cd f n (2 ^ n - 1) ↔ (mors (gS cd f n) (2 ^ n - 1)).testBit 0 = true := by
  have hp := Nat.two_pow_pos n
  rw [mors_tb]
  constructor
  · rintro ⟨t, h1, h2, h3⟩
    have := and_all.mp h2
    exact ⟨t, by omega, by omega, h3⟩
  · rintro ⟨s, h1, h2, h3⟩
    exact ⟨s, by omega, and_all.mpr (by omega), h3⟩
theorem jpc_all {n : Nat} : ∀ i, i ≤ n → jpc (2 ^ n - 1) i = i
  | 0, _ => rfl
  | i + 1, h => by
    unfold jpc
    rw [Nat.testBit_two_pow_sub_one, decide_eq_true (show i < n by omega), if_pos rfl, jpc_all i (by omega)]
theorem jpc_full {n t : Nat} (h : t < 2 ^ n) (h2 : jpc t n = n) : t = 2 ^ n - 1 := by
  have hs := and_all.mpr h
  have h3 := jpc_sub hs n
  rw [jpc_all n (Nat.le_refl _), h2] at h3
  have h4 := xs_sub hs
  have h5 : (2 ^ n - 1) ^^^ t = 0 := jpc_z (n := n) (by have := sub_le h4; have := Nat.two_pow_pos n; omega) (by omega)
  apply Nat.eq_of_testBit_eq
  intro j
  have h6 := congrArg (fun z => z.testBit j) h5
  simp only [Nat.testBit_xor, Nat.zero_testBit] at h6
  generalize (2 ^ n - 1).testBit j = a at h6 ⊢
  generalize t.testBit j = b at h6 ⊢
  revert h6
  cases a <;> cases b <;> decide
theorem jfw_least {M : Nat → Nat → Nat} {pn gg j : Nat} (hj : j < 2 ^ 30) : ∀ d k, k + d < 2 ^ 30 → jfw M pn gg d k = nI j → ∀ i, k ≤ i → i < j → (M pn i).testBit gg = false
  | 0, k, _, h, _, _, _ => absurd h.symm (nI_ne_neg (by omega))
  | d + 1, k, hk, h, i, h1, h2 => by
    unfold jfw at h
    by_cases q : (M pn k).testBit gg = true
    · rw [if_pos q] at h
      have := nI_inj (by omega) (by omega) h
      omega
    · rw [if_neg q] at h
      by_cases z : i = k
      · subst z
        cases w : (M pn i).testBit gg with
        | false => rfl
        | true => exact absurd w q
      · exact jfw_least hj d (k + 1) (by omega) h i (by omega) h2
theorem free_0 (h : cd ∈ jcodes) {n : Nat} (hn : n ≤ 12) (hf : ∀ j, j < n → f j < god cd) : nI (jfree (god cd) (jmf cd) (jaf cd) f n 0) = jB (!jD (zB cd f n (2 ^ n - 1))) := by
  unfold jfree
  rw [if_neg (by omega), sums_eq h hn hf]
  by_cases q : zB cd f n (2 ^ n - 1)
  · rw [jD_t q, if_pos (zB_all.mp q)]; rfl
  · rw [jD_f q, if_neg (fun z => q (zB_all.mpr z)), if_pos rfl]; rfl
theorem jsa_iff (h : cd ∈ jcodes) {n : Nat} (hf : ∀ j, j < n → f j < god cd) : jsa (god cd) (jmf cd) f n = 0 ↔ n ≠ 0 ∧ gS cd f n (2 ^ n - 1) = 0 := by
  unfold jsa
  by_cases z : n = 0
  · rw [if_pos z]
    constructor
    · intro q; exact absurd q (by decide)
    · rintro ⟨q, _⟩; exact absurd z q
  · rw [if_neg z]
    have hl := gS_lt1 (cd := cd) (f := f) (s := 2 ^ n - 1) h n hf
    constructor
    · intro q
      exact ⟨z, nI_inj (a := gS cd f n (2 ^ n - 1)) (b := 0) (by omega) (by omega) q⟩
    · rintro ⟨_, q⟩
      show nI (gS cd f n (2 ^ n - 1)) = 0
      rw [q]; rfl
theorem jhl_iff (h : cd ∈ jcodes) {n : Nat} (hn : n ≤ 12) (hf : ∀ j, j < n → f j < god cd) (h1 : n ≠ 0) (hz : gS cd f n (2 ^ n - 1) = 0) : jhl (msub (god cd) (jmf cd) f) n = false ↔ aT cd f n (2 ^ n - 1) := by
  have h0 : 0 < god cd := by have := hf 0 (by omega); omega
  have hp := Nat.two_pow_pos n
  have h2n : 2 ≤ 2 ^ n := by
    have := Nat.pow_le_pow_right (show 0 < 2 by omega) (show 1 ≤ n by omega)
    omega
  have hall : (msub (god cd) (jmf cd) f n n).testBit 0 = true := (msub_set h h0 n n 0 h0 hf).mpr ⟨2 ^ n - 1, by omega, jpc_all n (Nat.le_refl _), hz⟩
  have hne : ¬ jfw (msub (god cd) (jmf cd) f) n 0 n 1 = -1 := by
    have : ∀ d k, k ≤ n → n < k + d → ¬ jfw (msub (god cd) (jmf cd) f) n 0 d k = -1 := by
      intro d
      induction d with
      | zero => intro k h3 h4; omega
      | succ d ih =>
        intro k h3 h4
        unfold jfw
        by_cases q : (msub (god cd) (jmf cd) f n k).testBit 0 = true
        · rw [if_pos q]; exact nI_ne_neg (by omega)
        · rw [if_neg q]
          refine ih (k + 1) ?_ (by omega)
          rcases Nat.lt_or_ge k n with z | z
          · exact z
          · obtain rfl : k = n := by omega
            exact absurd hall q
    exact this n 1 (by omega) (by omega)
  obtain ⟨k, k1, k2, k3, k4⟩ := jfw_k n 1 hne
  have hleast := jfw_least (by omega) n 1 (by omega) k3
  have e : jhl (msub (god cd) (jmf cd) f) n = decide (k < n) := by
    unfold jhl
    rw [decide_eq_true hne, Bool.true_and, k3]
    apply decide_eq_decide.mpr
    rw [Int32.le_iff_toInt_le, nI_toInt (by omega), nI_toInt (by omega)]
    omega
  rw [e, decide_eq_false_iff_not]
  constructor
  · intro hk
    refine ⟨by omega, hz, fun t t1 t2 t3 => ?_⟩
    have tl := and_all.mp t2
    have tj : 1 ≤ jpc t n := by
      rcases Nat.eq_zero_or_pos (jpc t n) with w | w
      · exact absurd (jpc_z tl w) t1
      · exact w
    have hb := (msub_set h h0 n (jpc t n) 0 h0 hf).mpr ⟨t, tl, rfl, t3⟩
    refine jpc_full tl (Nat.le_antisymm (jpc_le t n) ?_)
    rcases Nat.lt_or_ge (jpc t n) k with w | w
    · rw [hleast _ tj w] at hb; cases hb
    · omega
  · rintro ⟨_, _, a3⟩ hk
    obtain ⟨s, s1, s2, s3⟩ := (msub_set h h0 n k 0 h0 hf).mp k4
    have := a3 s (fun z => by subst z; rw [jpc_0] at s2; omega) (and_all.mpr s1) s3
    subst this
    rw [jpc_all n (Nat.le_refl _)] at s2
    omega
theorem free_1 (h : cd ∈ jcodes) {n : Nat} (hn : n ≤ 12) (hf : ∀ j, j < n → f j < god cd) : nI (jfree (god cd) (jmf cd) (jaf cd) f n 1) = jB (jD (aT cd f n (2 ^ n - 1))) := by
  unfold jfree
  rw [if_pos rfl]
  by_cases q : aT cd f n (2 ^ n - 1)
  · have h1 : n ≠ 0 := fun z => by subst z; exact q.1 rfl
    rw [jD_t q, if_pos ⟨(jsa_iff h hf).mpr ⟨h1, q.2.1⟩, (jhl_iff h hn hf h1 q.2.1).mpr q⟩]; rfl
  · rw [jD_f q, if_neg (fun z => by
      have h1 := (jsa_iff h hf).mp z.1
      exact q ((jhl_iff h hn hf h1.1 h1.2).mp z.2))]; rfl
theorem mor1_tb {F : Nat → Nat} {g : Nat} : ∀ k, (mor1 F k).testBit g = ((1 : Nat).testBit g || (mors F k).testBit g)
  | 0 => by show (1 : Nat).testBit g = _; rw [mors, Nat.zero_testBit, Bool.or_false]
  | k + 1 => by unfold mor1 mors; rw [Nat.testBit_or, mor1_tb k, Nat.testBit_or, Bool.or_assoc]
theorem jwo_mwo (h : cd ∈ jcodes) {S M : Nat} (hM : ∀ g, M.testBit g = ((1 : Nat).testBit g || S.testBit g)) : ∀ g, g ≤ god cd → jwo (god cd) (jaf cd) S g = mwo cd M g
  | 0, _ => rfl
  | g + 1, hg => by
    have ih := jwo_mwo h hM g (by omega)
    unfold jwo mwo
    rw [ih, show jop (god cd) (jaf cd) g = gN cd g from rfl, hM]
    by_cases z : g = 0
    · subst z
      rw [gN_0 h (by omega), if_neg (by omega), if_pos (by simp)]
    · have hn : gN cd g ≠ 0 := fun w => z (by have := gN_N h (show g < god cd by omega); rw [w, gN_0 h (by omega)] at this; exact this.symm)
      have h1 : (1 : Nat).testBit (gN cd g) = false := by
        cases w : (1 : Nat).testBit (gN cd g) with
        | false => rfl
        | true => exact absurd (Nat.testBit_one_eq_true_iff_self_eq_zero.mp w) hn
      rw [h1, Bool.false_or]
      cases w : S.testBit (gN cd g) with
      | false => rw [if_pos ⟨by omega, rfl⟩, if_neg (by decide)]
      | true => rw [if_neg (fun q => by cases q.2), if_pos rfl]
theorem free_2 (h : cd ∈ jcodes) {n : Nat} (hn : n ≤ 12) (hf : ∀ j, j < n → f j < god cd) : jfree (god cd) (jmf cd) (jaf cd) f n 2 = mmay cd f n := by
  unfold jfree mmay
  rw [if_neg (by omega), sums_eq h hn hf]
  by_cases q : zB cd f n (2 ^ n - 1)
  · rw [jD_t q, if_pos (zB_all.mp q), if_pos rfl]
  · rw [jD_f q, if_neg (fun z => q (zB_all.mpr z)), if_neg (by omega), if_neg (by decide)]
    exact jwo_mwo h (fun g => mor1_tb _) _ (Nat.le_refl _)
end
