/-! the model's plain functions -/
def mIn (v a b : Int32) : Bool := decide (a.toInt ≤ v.toInt ∧ v.toInt ≤ b.toInt)
theorem jm1_toInt {k : Nat} (h : k < 2 ^ 31) : (jm1 k).toInt = (k : Int) - 1 := by
  cases k with
  | zero => rw [jm1_0]; decide
  | succ k => rw [jm1_s, nI_toInt (by omega)]; omega
theorem mIn_has {v : Int32} {k : Nat} (h : k < 2 ^ 31) : mIn v (nI 0) (jm1 k) = jhas v k := by
  unfold mIn jhas
  rw [jm1_toInt h, nI_toInt (by omega)]
  apply decide_eq_decide.mpr
  omega
theorem mIn_nn {k a b : Nat} (hk : k < 2 ^ 31) (ha : a < 2 ^ 31) (hb : b < 2 ^ 31) : mIn (nI k) (nI a) (nI b) = decide (a ≤ k ∧ k ≤ b) := by
  unfold mIn
  rw [nI_toInt hk, nI_toInt ha, nI_toInt hb]
  apply decide_eq_decide.mpr
  omega
theorem mIn_le {v : Int32} {k : Nat} (h : k < 2 ^ 30) : mIn v (nI 0) (nI k) = jhas v (k + 1) := by
  unfold mIn jhas
  rw [nI_toInt (by omega), nI_toInt (by omega)]
  apply decide_eq_decide.mpr
  omega
theorem jtb_t {s k : Nat} (h : (s >>> k) &&& 1 = 1) : s.testBit k = true := jtb1.mp (by omega)
theorem jtb_f {s k : Nat} (h : ¬ (s >>> k) &&& 1 = 1) : s.testBit k = false := jtb0.mp (by have := @Nat.and_le_right (s >>> k) 1; omega)
/-- how many bits of the first i -/
def jpc (s : Nat) : Nat → Nat
  | 0 => 0
  | i + 1 => if s.testBit i then jpc s i + 1 else jpc s i
/-- the first bit, d tried from k on -/
def mlw (s : Nat) : Nat → Nat → Nat
  | 0, k => k
  | d + 1, k => if s.testBit k then k else mlw s d (k + 1)
theorem mlw_ok0 : ((List.range 4096).all fun s => decide (s = 0) || (decide (mlw s 12 0 < 12) && (s.testBit (mlw s 12 0) && (decide (s &&& (s - 1) = s ^^^ 2 ^ mlw s 12 0) && (decide (s &&& (s - 1) < s) && decide (jpc (s &&& (s - 1)) 12 + 1 = jpc s 12)))))) = true := by decide +kernel
theorem mlw_ok {s : Nat} (h : s < 4096) (h0 : s ≠ 0) : mlw s 12 0 < 12 ∧ s.testBit (mlw s 12 0) = true ∧ s &&& (s - 1) = s ^^^ 2 ^ mlw s 12 0 ∧ s &&& (s - 1) < s ∧ jpc (s &&& (s - 1)) 12 + 1 = jpc s 12 := by
  have := List.all_eq_true.mp mlw_ok0 s (List.mem_range.mpr h)
  simp only [Bool.or_eq_true, Bool.and_eq_true, decide_eq_true_eq] at this
  rcases this with q | q
  · exact absurd q h0
  · exact q
theorem mlw_s {s d k : Nat} (h : s.testBit k = false) : mlw s (d + 1) k = mlw s d (k + 1) := by rw [mlw, if_neg (by rw [h]; decide)]
theorem mlw_e {s d k : Nat} (h : s.testBit k = true) : mlw s d k = k := by
  cases d with
  | zero => rfl
  | succ d => rw [mlw, if_pos h]
theorem mlw_lt {s k : Nat} (hk : k < 12) (h : mlw s 12 0 = mlw s (12 - k) k) (h0 : s < 4096 ∧ s ≠ 0) (hb : s.testBit k = false) : k + 1 < 12 ∧ mlw s 12 0 = mlw s (12 - (k + 1)) (k + 1) := by
  have h1 := mlw_ok h0.1 h0.2
  have h2 : mlw s (12 - k) k = mlw s (12 - (k + 1)) (k + 1) := by
    rw [show 12 - k = (12 - (k + 1)) + 1 by omega]
    exact mlw_s hb
  rw [h2] at h
  refine ⟨?_, h⟩
  rcases Nat.lt_or_ge (k + 1) 12 with z | z
  · exact z
  · exfalso
    rw [show 12 - (k + 1) = 0 by omega] at h
    have : mlw s 12 0 = k + 1 := h
    omega
/-- what a word's j-th byte is -/
def mby (v : Int32) (j : Nat) : Nat := jb8 (v.toUInt32 >>> ((nI (24 - 8 * j)).toUInt32 &&& Int32.toUInt32 31)).toInt32
def map4 (t : Nat → Nat) (n : Nat) (v : Int32) (u : Nat → Nat) : Prop := ∀ j, u j = if j < n then t j else if j < n + 4 then mby v (j - n) else t j
theorem map4_post (t : Nat → Nat) (n : Nat) (v : Int32) : map4 t n v (va_up (va_up (va_up (va_up t n (mby v 0)) (n + 1) (mby v 1)) (n + 1 + 1) (mby v 2)) (n + 1 + 1 + 1) (mby v 3)) := by
  intro j
  unfold va_up
  by_cases h3 : j = n + 1 + 1 + 1
  · rw [if_pos h3, if_neg (by omega), if_pos (by omega), show j - n = 3 by omega]
  · rw [if_neg h3]
    by_cases h2 : j = n + 1 + 1
    · rw [if_pos h2, if_neg (by omega), if_pos (by omega), show j - n = 2 by omega]
    · rw [if_neg h2]
      by_cases h1 : j = n + 1
      · rw [if_pos h1, if_neg (by omega), if_pos (by omega), show j - n = 1 by omega]
      · rw [if_neg h1]
        by_cases h0 : j = n
        · rw [if_pos h0, if_neg (by omega), if_pos (by omega), show j - n = 0 by omega]
        · rw [if_neg h0]
          by_cases h : j < n
          · rw [if_pos h]
          · rw [if_neg h, if_neg (by omega)]
theorem jb8_and (v : Int32) : v &&& nI 255 = nI (jb8 v) := by rw [show (nI 255 : Int32) = 255 from by decide +kernel]; exact jb8_eq _
def mfeed (t : Nat → Nat) (n : Nat) (a b c d e : Int32) (u : Nat → Nat) : Prop := (n + 20 ≤ 340 → ∃ f1 f2 f3 f4 : Nat → Nat, map4 t n a f1 ∧ map4 f1 (n + 4) b f2 ∧ map4 f2 (n + 8) c f3 ∧ map4 f3 (n + 12) d f4 ∧ map4 f4 (n + 16) e u) ∧ (¬ n + 20 ≤ 340 → u = t)
/-! the row of 17 -/
def mpr (w : Nat → Nat) : Nat → Nat
  | 0 => 1
  | i + 1 => mpr w i * w (1 + i)
def mord (w : Nat → Nat) : Nat := if w 0 = 0 then 0 else mpr w (w 0)
def mIs (cd n : Nat) (f w : Nat → Nat) : Prop := cd ∈ jcodes ∧ w 0 = gpt cd ∧ (∀ i, i < gpt cd → w (1 + i) = gsz cd i) ∧ w 4 = n ∧ n ≤ 12 ∧ (∀ j, j < n → w (5 + j) = f j) ∧ ∀ j, j < n → f j < god cd
theorem gpr_pr {cd : Nat} {w : Nat → Nat} (h0 : cd ≠ 0) (h : ∀ i, i < gpt cd → w (1 + i) = gsz cd i) : ∀ k, k ≤ gpt cd → mpr w k = gpr cd k
  | 0, _ => by show 1 = if cd = 0 then 0 else 1; rw [if_neg h0]
  | k + 1, hk => by
    unfold mpr gpr
    rw [gpr_pr h0 h k (by omega), h k (by omega)]
theorem gpt_0 : ∀ cd ∈ jcodes, gpt cd = 0 → cd = 0 := by decide +kernel
theorem mIs.ord {cd n : Nat} {f w : Nat → Nat} (h : mIs cd n f w) : mord w = god cd := by
  obtain ⟨h1, h2, h3, -⟩ := h
  unfold mord
  by_cases z : w 0 = 0
  · rw [if_pos z]
    obtain rfl := gpt_0 cd h1 (by omega)
    decide +kernel
  · rw [if_neg z, h2]
    have h0 : cd ≠ 0 := fun q => by
      subst q
      have : gpt 0 = 0 := by decide +kernel
      omega
    exact gpr_pr h0 h3 _ (Nat.le_refl _)
theorem mIs.g {cd n : Nat} {f w : Nat → Nat} (h : mIs cd n f w) : god cd ≤ 24 ∧ gpt cd ≤ 3 ∧ w 0 = gpt cd ∧ w 4 = n ∧ n ≤ 12 ∧ gex cd ≤ 24 := ⟨(g_small cd h.1).2.1, (g_small cd h.1).2.2.2.1, h.2.1, h.2.2.2.1, h.2.2.2.2.1, (g_small cd h.1).2.2.1⟩
/-- the exponent by greatest divisors -/
def mexp (cd : Nat) : Nat → Nat
  | 0 => 1
  | i + 1 => mexp cd i / Nat.gcd (mexp cd i) (gsz cd i) * gsz cd i
theorem mexp_ok : ∀ cd ∈ jcodes, cd = 0 ∨ (mexp cd (gpt cd) = gex cd ∧ ∀ i, i < 4 → i ≤ gpt cd → 1 ≤ mexp cd i ∧ mexp cd i ≤ 24) := by decide +kernel
theorem mgcd_unit : ∀ u, u < 26 → ∀ e, e < 25 → 1 ≤ u → 1 ≤ e → junit e u = decide (Nat.gcd u e = 1) := by decide +kernel
theorem gex_pos : ∀ cd ∈ jcodes, cd ≠ 0 → 1 ≤ gex cd := by decide +kernel
/-! sums of sets -/
def gS (cd : Nat) (f : Nat → Nat) (n s : Nat) : Nat := jsum (god cd) (jmf cd) f s n
theorem gS_s {cd : Nat} {f : Nat → Nat} {n s : Nat} : gS cd f (n + 1) s = if s.testBit n then gP cd (gS cd f n s) (f n) else gS cd f n s := rfl
theorem gS_lt {cd : Nat} {f : Nat → Nat} (h : cd ∈ jcodes) (h0 : 0 < god cd) (s : Nat) : ∀ n, (∀ j, j < n → f j < god cd) → gS cd f n s < god cd
  | 0, _ => h0
  | n + 1, hf => by
    rw [gS_s]
    have ih := gS_lt (f := f) h h0 s n (fun j hj => hf j (by omega))
    split
    · exact gP_lt h ih (hf n (by omega))
    · exact ih
theorem gS_congr {cd : Nat} {f : Nat → Nat} {s t : Nat} : ∀ n, (∀ j, j < n → s.testBit j = t.testBit j) → gS cd f n s = gS cd f n t
  | 0, _ => rfl
  | n + 1, hh => by
    rw [gS_s, gS_s, gS_congr n (fun j hj => hh j (by omega)), hh n (by omega)]
theorem tb_xor {s k j : Nat} : (s ^^^ 2 ^ k).testBit j = (s.testBit j ^^ decide (k = j)) := by rw [Nat.testBit_xor, Nat.testBit_two_pow]
theorem gS_bit {cd : Nat} {f : Nat → Nat} {s k : Nat} (h : cd ∈ jcodes) (hb : s.testBit k = true) : ∀ n, k < n → (∀ j, j < n → f j < god cd) → gS cd f n s = gP cd (gS cd f n (s ^^^ 2 ^ k)) (f k)
  | 0, hk, _ => absurd hk (Nat.not_lt_zero _)
  | n + 1, hk, hf => by
    have h0 : 0 < god cd := by have := hf k hk; omega
    rw [gS_s, gS_s]
    by_cases z : k = n
    · subst z
      have h1 : (s ^^^ 2 ^ k).testBit k = false := by rw [tb_xor, hb]; simp
      rw [if_pos hb, if_neg (by rw [h1]; decide), gS_congr (t := s ^^^ 2 ^ k) k (fun j hj => by rw [tb_xor, decide_eq_false (by omega)]; simp)]
    · have h1 : (s ^^^ 2 ^ k).testBit n = s.testBit n := by rw [tb_xor, decide_eq_false z]; simp
      rw [h1]
      have ih := gS_bit (f := f) h hb n (by omega) (fun j hj => hf j (by omega))
      have hl := gS_lt (f := f) h h0 (s ^^^ 2 ^ k) n (fun j hj => hf j (by omega))
      by_cases q : s.testBit n = true
      · rw [if_pos q, if_pos q, ih, gP_assoc h hl (hf k (by omega)) (hf n (by omega)), gP_comm h (f k) (f n), ← gP_assoc h hl (hf n (by omega)) (hf k (by omega))]
      · rw [if_neg q, if_neg q, ih]
theorem gS_low {cd : Nat} {f : Nat → Nat} {s n : Nat} (h : cd ∈ jcodes) (hs : s < 2 ^ n) (hn : n ≤ 12) (h0 : s ≠ 0) (hf : ∀ j, j < n → f j < god cd) : mlw s 12 0 < n ∧ gS cd f n s = gP cd (gS cd f n (s &&& (s - 1))) (f (mlw s 12 0)) := by
  have h12 : 2 ^ n ≤ 2 ^ 12 := Nat.pow_le_pow_right (by omega) hn
  obtain ⟨h1, h2, h3, h4⟩ := mlw_ok (s := s) (by omega) h0
  have hk : mlw s 12 0 < n := by
    rcases Nat.lt_or_ge (mlw s 12 0) n with z | z
    · exact z
    · have : s.testBit (mlw s 12 0) = false := Nat.testBit_lt_two_pow (Nat.lt_of_lt_of_le hs (Nat.pow_le_pow_right (by omega) z))
      rw [h2] at this; cases this
  exact ⟨hk, by rw [h3]; exact gS_bit h h2 n hk hf⟩
/-- the first s from a number on, d tried, for which T holds; 0: none -/
def mfst (T : Nat → Bool) : Nat → Nat → Nat
  | 0, _ => 0
  | d + 1, s => if T s then s else mfst T d (s + 1)
def mcnt (T : Nat → Bool) : Nat → Nat
  | 0 => 0
  | s + 1 => if T (s + 1) then mcnt T s + 1 else mcnt T s
/-- sum and number of places -/
def mTk (cd : Nat) (f : Nat → Nat) (n gg k s : Nat) : Bool := decide (gS cd f n s = gg) && (decide (k = 0) || decide (jpc s 12 = k))
theorem mfst_n {T : Nat → Bool} {N s : Nat} (h : s < N) (hT : T s = false) : mfst T (N - s) s = mfst T (N - (s + 1)) (s + 1) := by
  rw [show N - s = (N - (s + 1)) + 1 by omega, mfst, if_neg (by rw [hT]; decide)]
theorem mfst_t {T : Nat → Bool} {N s : Nat} (h : s < N) (hT : T s = true) : mfst T (N - s) s = s := by
  rw [show N - s = (N - (s + 1)) + 1 by omega, mfst, if_pos hT]
theorem mfst_0 {T : Nat → Bool} {N s : Nat} (h : N ≤ s) : mfst T (N - s) s = 0 := by rw [show N - s = 0 by omega]; rfl
theorem mcnt_t {T : Nat → Bool} {s : Nat} (h1 : 1 ≤ s) (h : T s = true) : mcnt T (s - 1) + 1 = mcnt T s := by
  obtain ⟨t, rfl⟩ : ∃ t, s = t + 1 := ⟨s - 1, by omega⟩
  show mcnt T t + 1 = _
  rw [mcnt, if_pos h]
theorem mcnt_f {T : Nat → Bool} {s : Nat} (h1 : 1 ≤ s) (h : T s = false) : mcnt T (s - 1) = mcnt T s := by
  obtain ⟨t, rfl⟩ : ∃ t, s = t + 1 := ⟨s - 1, by omega⟩
  show mcnt T t = _
  rw [mcnt, if_neg (by rw [h]; decide)]
def mTkN (cd : Nat) (f : Nat → Nat) (n gg k : Nat) : Nat := mfst (mTk cd f n gg k) (2 ^ n - 1) 1
theorem mfst_le {T : Nat → Bool} {N : Nat} (hN : 0 < N) : ∀ d s, s + d ≤ N → mfst T d s < N
  | 0, s, h => hN
  | d + 1, s, h => by
    unfold mfst
    split
    · omega
    · exact mfst_le hN d (s + 1) (by omega)
/-- found: of the fewest places, k tried from k on -/
def mfnd (F : Nat → Nat) (w : Int32) : Nat → Nat → Int32
  | 0, _ => -1
  | d + 1, k => if F k = 0 then mfnd F w d (k + 1) else if w = 0 then nI k else nI (F k)
theorem mfnd_n {F : Nat → Nat} {w : Int32} {N k : Nat} (h : k < N) (hF : F k = 0) : mfnd F w (N - k) k = mfnd F w (N - (k + 1)) (k + 1) := by
  rw [show N - k = (N - (k + 1)) + 1 by omega, mfnd, if_pos hF]
theorem mfnd_t {F : Nat → Nat} {w : Int32} {N k : Nat} (h : k < N) (hF : ¬ F k = 0) : mfnd F w (N - k) k = if w = 0 then nI k else nI (F k) := by
  rw [show N - k = (N - (k + 1)) + 1 by omega, mfnd, if_neg hF]
theorem mfnd_0 {F : Nat → Nat} {w : Int32} {N k : Nat} (h : N ≤ k) : mfnd F w (N - k) k = -1 := by rw [show N - k = 0 by omega]; rfl
theorem mcp_step {fa fb h : Nat → Nat} {s t k : Nat} (hh : ∀ j, h j = if t ≤ j ∧ j < t + k then fa (s + (j - t)) else fb j) : ∀ j, va_up h (t + k) (fa (s + k)) j = if t ≤ j ∧ j < t + (k + 1) then fa (s + (j - t)) else fb j := by
  intro j
  unfold va_up
  by_cases z : j = t + k
  · rw [if_pos z, if_pos (by omega), show s + (j - t) = s + k by omega]
  · rw [if_neg z, hh]
    by_cases q : t ≤ j ∧ j < t + k
    · rw [if_pos q, if_pos (by omega)]
    · rw [if_neg q, if_neg (by omega)]
theorem gS_z {cd : Nat} {f : Nat → Nat} : ∀ {n : Nat}, gS cd f n 0 = 0
  | 0 => rfl
  | n + 1 => by rw [gS_s, if_neg (by rw [Nat.zero_testBit]; decide), gS_z]
theorem gS_lt1 {cd : Nat} {f : Nat → Nat} {s : Nat} (h : cd ∈ jcodes) (n : Nat) (hf : ∀ j, j < n → f j < god cd) : gS cd f n s < 24 := by
  have h24 := (g_small cd h).2.1
  cases n with
  | zero => show 0 < 24; omega
  | succ n => have := gS_lt (f := f) h (by have := hf 0 (by omega); omega) s (n + 1) hf; omega
def mors (F : Nat → Nat) : Nat → Nat
  | 0 => 0
  | s + 1 => mors F s ||| 1 <<< F (s + 1)
theorem jpc_le (s : Nat) : ∀ i, jpc s i ≤ i
  | 0 => Nat.le_refl 0
  | i + 1 => by
    have := jpc_le s i
    unfold jpc
    split <;> omega
theorem mTk_1 {cd : Nat} {f : Nat → Nat} {n gg k s : Nat} (h : ¬ gS cd f n s = gg) : mTk cd f n gg k s = false := by simp [mTk, h]
theorem mTk_2 {cd : Nat} {f : Nat → Nat} {n gg k s : Nat} (h : ¬ k = 0) (h2 : ¬ jpc s 12 = k) : mTk cd f n gg k s = false := by simp [mTk, h, h2]
theorem mTk_3 {cd : Nat} {f : Nat → Nat} {n gg k s : Nat} (h : gS cd f n s = gg) (h2 : k = 0) : mTk cd f n gg k s = true := by simp [mTk, h, h2]
theorem mTk_4 {cd : Nat} {f : Nat → Nat} {n gg k s : Nat} (h : gS cd f n s = gg) (h2 : jpc s 12 = k) : mTk cd f n gg k s = true := by simp [mTk, h, h2]
theorem mTkN_lt {cd : Nat} {f : Nat → Nat} {n gg k : Nat} (h : 2 ^ n ≤ 2 ^ 12) : mTkN cd f n gg k < 4096 := by
  have := mfst_le (T := mTk cd f n gg k) (N := 2 ^ n) (Nat.two_pow_pos n) (2 ^ n - 1) 1 (by have := Nat.two_pow_pos n; omega)
  unfold mTkN
  omega
