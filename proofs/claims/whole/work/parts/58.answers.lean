/-! the answers of both: sums, found, exactly -/
section
variable {cd : Nat} {f : Nat → Nat}
theorem msub_bd (h : cd ∈ jcodes) (h0 : 0 < god cd) : ∀ i k g, (∀ j, j < i → f j < god cd) → (msub (god cd) (jmf cd) f i k).testBit g = true → g < god cd
  | 0, k, g, _, q => by
    unfold msub at q
    by_cases z : k = 0
    · rw [if_pos z] at q
      have : g = 0 := Nat.testBit_one_eq_true_iff_self_eq_zero.mp q
      omega
    · rw [if_neg z, Nat.zero_testBit] at q; cases q
  | i + 1, 0, g, _, q => by
    have q : (1 : Nat).testBit g = true := q
    have : g = 0 := Nat.testBit_one_eq_true_iff_self_eq_zero.mp q
    omega
  | i + 1, k + 1, g, hf, q => by
    unfold msub at q
    rw [Nat.testBit_or, Bool.or_eq_true, jmoved_tb (god cd)] at q
    rcases q with q | ⟨a, h1, h2, h3⟩
    · exact msub_bd h h0 i (k + 1) g (fun j hj => hf j (by omega)) q
    · rw [← h3]; exact gP_lt h h1 (hf i (by omega))
theorem jpc_n {n s : Nat} (hn : n ≤ 12) (hs : s < 2 ^ n) : jpc s 12 = jpc s n := jpc_top hs 12 hn
theorem sums_eq (h : cd ∈ jcodes) {n : Nat} (hn : n ≤ 12) (hf : ∀ j, j < n → f j < god cd) : jors (msub (god cd) (jmf cd) f n) n = mors (gS cd f n) (2 ^ n - 1) := by
  cases hz : n with
  | zero => rfl
  | succ m =>
    rw [← hz]
    have h0 : 0 < god cd := by have := hf 0 (by omega); omega
    have hp := Nat.two_pow_pos n
    apply Nat.eq_of_testBit_eq
    intro g
    apply Bool.eq_iff_iff.mpr
    rw [jors_tb, mors_tb]
    constructor
    · rintro ⟨k, h1, h2, h3⟩
      have hg := msub_bd h h0 n k g hf h3
      obtain ⟨s, h4, h5, h6⟩ := (msub_set h h0 n k g hg hf).mp h3
      refine ⟨s, ?_, by omega, h6⟩
      rcases Nat.eq_zero_or_pos s with z | z
      · subst z; rw [jpc_0] at h5; omega
      · exact z
    · rintro ⟨s, h1, h2, h3⟩
      refine ⟨jpc s n, ?_, jpc_le s n, (msub_set h h0 n _ g (by rw [← h3]; exact gS_lt h h0 s n hf) hf).mpr ⟨s, by omega, rfl, h3⟩⟩
      rcases Nat.eq_zero_or_pos (jpc s n) with z | z
      · have := jpc_z (n := n) (by omega) z; omega
      · exact z
theorem jls_acc {od : Nat} {mf af : Nat → Nat} {M : Nat → Nat → Nat} : ∀ p l c s, jls od mf af f M p l c s = s ||| jls od mf af f M p l c 0
  | 0, _, _, s => by show s = s ||| 0; rw [Nat.or_zero]
  | p + 1, l, c, s => by
    unfold jls
    split
    · exact jls_acc p l c s
    · rw [jls_acc p _ _ (s ||| 2 ^ p), jls_acc p _ _ (0 ||| 2 ^ p), Nat.zero_or, Nat.or_assoc]
theorem or_add {p r : Nat} (h : r < 2 ^ p) : 2 ^ p ||| r = 2 ^ p + r := by
  have := Nat.two_pow_add_eq_or_of_lt h 1
  rw [Nat.mul_one] at this
  exact this.symm
theorem x_add {p t : Nat} (h : t.testBit p = true) : t = 2 ^ p + (t ^^^ 2 ^ p) := by
  have := jxor_sub h
  omega
/-- the least set -/
theorem jls_ok (h : cd ∈ jcodes) (h0 : 0 < god cd) : ∀ p l c, l < god cd → (∀ j, j < p → f j < god cd) → (msub (god cd) (jmf cd) f p c).testBit l = true →
    jls (god cd) (jmf cd) (jaf cd) f (msub (god cd) (jmf cd) f) p l c 0 < 2 ^ p ∧ jpc (jls (god cd) (jmf cd) (jaf cd) f (msub (god cd) (jmf cd) f) p l c 0) p = c ∧ gS cd f p (jls (god cd) (jmf cd) (jaf cd) f (msub (god cd) (jmf cd) f) p l c 0) = l ∧ ∀ t, t < 2 ^ p → jpc t p = c → gS cd f p t = l → jls (god cd) (jmf cd) (jaf cd) f (msub (god cd) (jmf cd) f) p l c 0 ≤ t
  | 0, l, c, hl, _, q => by
    obtain ⟨s, h1, h2, h3⟩ := (msub_set h h0 0 c l hl (fun j hj => absurd hj (Nat.not_lt_zero _))).mp q
    have hs : s = 0 := by have : s < 1 := h1; omega
    subst hs
    exact ⟨by show 0 < 1; omega, h2, h3, fun t _ _ _ => Nat.zero_le _⟩
  | p + 1, l, c, hl, hf, q => by
    have hfp := hf p (by omega)
    unfold jls
    by_cases z : (msub (god cd) (jmf cd) f p c).testBit l = true
    · rw [if_pos z]
      obtain ⟨a1, a2, a3, a4⟩ := jls_ok h h0 p l c hl (fun j hj => hf j (by omega)) z
      refine ⟨Nat.lt_of_lt_of_le a1 (Nat.pow_le_pow_right (by omega) (by omega)), ?_, ?_, fun t h1 h2 h3 => ?_⟩
      · rw [jpc_top a1 (p + 1) (by omega), a2]
      · rw [gS_top a1, a3]
      · rcases set_top h1 with h4 | ⟨h4, h5⟩
        · exact a4 t h4 (by rw [← jpc_top h4 (p + 1) (by omega), h2]) (by rw [← gS_top h4, h3])
        · have := x_add h4; omega
    · rw [if_neg z, Nat.zero_or]
      have z' : (msub (god cd) (jmf cd) f p c).testBit l = false := by
        cases w : (msub (god cd) (jmf cd) f p c).testBit l with
        | false => rfl
        | true => exact absurd w z
      have hall : ∀ t, t < 2 ^ (p + 1) → jpc t (p + 1) = c → gS cd f (p + 1) t = l → t.testBit p = true ∧ t ^^^ 2 ^ p < 2 ^ p ∧ jpc (t ^^^ 2 ^ p) p = c - 1 ∧ gS cd f p (t ^^^ 2 ^ p) = gP cd l (gN cd (f p)) := by
        intro t h1 h2 h3
        rcases set_top h1 with h4 | ⟨h4, h5⟩
        · exfalso
          exact z ((msub_set h h0 p c l hl (fun j hj => hf j (by omega))).mpr ⟨t, h4, by rw [← jpc_top h4 (p + 1) (by omega), h2], by rw [← gS_top h4, h3]⟩)
        · refine ⟨h4, h5, ?_, ?_⟩
          · have := jpc_bit h4 (show p < p + 1 by omega)
            rw [jpc_top h5 (p + 1) (by omega)] at this
            omega
          · rw [gS_top1 h4] at h3
            rw [← h3, gP_can h hfp (gS_lt h h0 _ p (fun j hj => hf j (by omega)))]
      obtain ⟨s, h1, h2, h3⟩ := (msub_set h h0 (p + 1) c l hl hf).mp q
      obtain ⟨b1, b2, b3, b4⟩ := hall s h1 h2 h3
      have hn := gN_in h hfp
      have hl' := gP_lt h hl hn.1
      obtain ⟨a1, a2, a3, a4⟩ := jls_ok h h0 p (gP cd l (gN cd (f p))) (c - 1) hl' (fun j hj => hf j (by omega)) ((msub_set h h0 p (c - 1) _ hl' (fun j hj => hf j (by omega))).mpr ⟨_, b2, b3, b4⟩)
      have hc1 : 1 ≤ c := by
        have := jpc_bit b1 (show p < p + 1 by omega)
        omega
      rw [show jls (god cd) (jmf cd) (jaf cd) f (msub (god cd) (jmf cd) f) p (jpl (god cd) (jmf cd) l (jop (god cd) (jaf cd) (f p))) (c - 1) (2 ^ p) = 2 ^ p ||| jls (god cd) (jmf cd) (jaf cd) f (msub (god cd) (jmf cd) f) p (gP cd l (gN cd (f p))) (c - 1) 0 from jls_acc p _ _ _]
      generalize jls (god cd) (jmf cd) (jaf cd) f (msub (god cd) (jmf cd) f) p (gP cd l (gN cd (f p))) (c - 1) 0 = r at a1 a2 a3 a4 ⊢
      have hr : r.testBit p = false := Nat.testBit_lt_two_pow a1
      have ht : (2 ^ p ||| r).testBit p = true := by rw [Nat.testBit_or, Nat.testBit_two_pow]; simp
      have hx : (2 ^ p ||| r) ^^^ 2 ^ p = r := by
        apply Nat.eq_of_testBit_eq
        intro j
        rw [tb_xor, Nat.testBit_or, Nat.testBit_two_pow]
        by_cases w : p = j
        · subst w; rw [hr]; simp
        · rw [decide_eq_false w]; simp
      refine ⟨?_, ?_, ?_, fun t h4 h5 h6 => ?_⟩
      · rw [or_add a1, Nat.pow_succ]; omega
      · rw [jpc_bit ht (by omega), hx, jpc_top a1 (p + 1) (by omega), a2]; omega
      · rw [gS_top1 ht, hx, a3, gP_can2 h hfp hl]
      · obtain ⟨c1, c2, c3, c4⟩ := hall t h4 h5 h6
        have := a4 _ c2 c3 c4
        rw [or_add a1]
        have := x_add c1
        omega
theorem mTk_iff {n gg k s : Nat} (hk : k ≠ 0) : mTk cd f n gg k s = true ↔ gS cd f n s = gg ∧ jpc s 12 = k := by
  unfold mTk
  rw [Bool.and_eq_true, decide_eq_true_eq, Bool.or_eq_true, decide_eq_true_eq, decide_eq_true_eq]
  constructor
  · rintro ⟨h1, h2 | h2⟩
    · exact absurd h2 hk
    · exact ⟨h1, h2⟩
  · rintro ⟨h1, h2⟩
    exact ⟨h1, Or.inr h2⟩
theorem mfst_0' {T : Nat → Bool} : ∀ k s, (∀ x, s ≤ x → x < s + k → T x = false) → mfst T k s = 0
  | 0, _, _ => rfl
  | k + 1, s, h => by
    unfold mfst
    rw [if_neg (by rw [h s (Nat.le_refl _) (by omega)]; decide)]
    exact mfst_0' k (s + 1) (fun x h1 h2 => h x (by omega) (by omega))
/-- the first set of k places with sum gg -/
theorem mTkN_eq (h : cd ∈ jcodes) {n gg k : Nat} (hn : n ≤ 12) (hf : ∀ j, j < n → f j < god cd) (hg : gg < god cd) (hk : 1 ≤ k) :
    ((msub (god cd) (jmf cd) f n k).testBit gg = true → mTkN cd f n gg k ≠ 0 ∧ mTkN cd f n gg k = jls (god cd) (jmf cd) (jaf cd) f (msub (god cd) (jmf cd) f) n gg k 0) ∧ ((msub (god cd) (jmf cd) f n k).testBit gg = false → mTkN cd f n gg k = 0) := by
  have h0 : 0 < god cd := by omega
  have hp := Nat.two_pow_pos n
  constructor
  · intro q
    obtain ⟨a1, a2, a3, a4⟩ := jls_ok h h0 n gg k hg hf q
    generalize jls (god cd) (jmf cd) (jaf cd) f (msub (god cd) (jmf cd) f) n gg k 0 = r at a1 a2 a3 a4
    have hr1 : 1 ≤ r := by
      rcases Nat.eq_zero_or_pos r with z | z
      · subst z; rw [jpc_0] at a2; omega
      · exact z
    obtain ⟨b1, b2, b3, b4⟩ := mfst_ok (T := mTk cd f n gg k) (2 ^ n - 1) 1 ⟨r, hr1, by omega, (mTk_iff (by omega)).mpr ⟨a3, by rw [jpc_n hn a1, a2]⟩⟩
    have c1 := (mTk_iff (by omega)).mp b1
    unfold mTkN
    refine ⟨by omega, Nat.le_antisymm (b4 r hr1 ((mTk_iff (by omega)).mpr ⟨a3, by rw [jpc_n hn a1, a2]⟩)) (a4 _ (by omega) ?_ c1.1)⟩
    rw [← jpc_n hn (by omega)]; exact c1.2
  · intro q
    refine mfst_0' _ _ (fun x h1 h2 => ?_)
    cases w : mTk cd f n gg k x with
    | false => rfl
    | true =>
      have c1 := (mTk_iff (by omega)).mp w
      have := (msub_set h h0 n k gg hg hf).mpr ⟨x, by omega, by rw [← jpc_n hn (by omega)]; exact c1.2, c1.1⟩
      rw [q] at this; cases this
theorem exactly_eq (h : cd ∈ jcodes) {n gg k : Nat} (hn : n ≤ 12) (hf : ∀ j, j < n → f j < god cd) (hg : gg < god cd) (hk : 1 ≤ k) :
    (if (msub (god cd) (jmf cd) f n k).testBit gg = true then nI (jls (god cd) (jmf cd) (jaf cd) f (msub (god cd) (jmf cd) f) n gg k 0) else -1) = (if mTkN cd f n gg k = 0 then -1 else nI (mTkN cd f n gg k)) := by
  have hh := mTkN_eq h hn hf hg hk
  cases q : (msub (god cd) (jmf cd) f n k).testBit gg with
  | true =>
    obtain ⟨h1, h2⟩ := hh.1 q
    rw [if_pos rfl, if_neg h1, h2]
  | false => rw [if_neg (by decide), if_pos (hh.2 q)]
theorem found_eq (h : cd ∈ jcodes) {n gg : Nat} {w : Int32} (hn : n ≤ 12) (hf : ∀ j, j < n → f j < god cd) (hg : gg < god cd) : jfnd (god cd) (jmf cd) (jaf cd) f n gg w = mfnd (mTkN cd f n gg) w n 1 := by
  have key : ∀ d k, 1 ≤ k → k + d ≤ n + 1 → mfnd (mTkN cd f n gg) w d k = if jfw (msub (god cd) (jmf cd) f) n gg d k = -1 then -1 else if w = 0 then jfw (msub (god cd) (jmf cd) f) n gg d k else nI (jls (god cd) (jmf cd) (jaf cd) f (msub (god cd) (jmf cd) f) n gg (jfw (msub (god cd) (jmf cd) f) n gg d k).toNatClampNeg 0) := by
    intro d
    induction d with
    | zero => intro k _ _; rfl
    | succ d ih =>
      intro k hk hd
      have hh := mTkN_eq h hn hf hg hk
      unfold mfnd jfw
      cases q : (msub (god cd) (jmf cd) f n k).testBit gg with
      | true =>
        obtain ⟨h1, h2⟩ := hh.1 q
        rw [if_neg h1, if_pos rfl, if_neg (nI_ne_neg (by omega)), nI_clamp (by omega), h2]
      | false =>
        rw [if_pos (hh.2 q), if_neg (show ¬ (false = true) by decide), ih (k + 1) (by omega) (by omega)]
  unfold jfnd
  exact (key n 1 (Nat.le_refl _) (by omega)).symm
end
