/-! the model's tokens are the class's -/
theorem lsk_ext {B : Nat → Nat} {l l' : Nat} (hl : l ≤ l') : ∀ d p, p + d = l → (lsk B d p < l → lsk B (l' - p) p = lsk B d p) ∧ (l ≤ lsk B d p → l ≤ lsk B (l' - p) p)
  | 0, p, h => by
    have h1 : lsk B 0 p = p := rfl
    have h2 := (lsk_le (B := B) (l' - p) p).1
    rw [h1]
    exact ⟨fun z => by omega, fun z => by omega⟩
  | d + 1, p, h => by
    have ih := lsk_ext (B := B) hl d (p + 1) (by omega)
    cases q : jbl (B p) with
    | false =>
      have h1 : lsk B (d + 1) p = p := by rw [lsk, if_neg (by rw [q]; decide)]
      rw [h1, lsk_f q]
      exact ⟨fun _ => rfl, fun z => z⟩
    | true =>
      have h1 : lsk B (d + 1) p = lsk B d (p + 1) := by rw [lsk, if_pos q]
      rw [h1, lsk_t (by omega) q]
      exact ih
theorem lrn_al {B : Nat → Nat} : ∀ d p k, p ≤ k → k < lrn B d p → jal (B k) = true
  | 0, p, k, h1, h2 => by
    have : lrn B 0 p = p := rfl
    omega
  | d + 1, p, k, h1, h2 => by
    unfold lrn at h2
    by_cases q : jal (B p) = true
    · rw [if_pos q] at h2
      by_cases z : k = p
      · subst z; exact q
      · exact lrn_al d (p + 1) k (by omega) h2
    · rw [if_neg q] at h2
      omega
theorem mgd_all {t : Nat → Nat} {p : Nat} : ∀ c, mgdS t p c = true ↔ ∀ k, k < c → jlet (t (p + k)) = jlet (t p)
  | 0 => ⟨fun _ k h => absurd h (Nat.not_lt_zero _), fun _ => rfl⟩
  | c + 1 => by
    rw [mgdS, Bool.and_eq_true, mgd_all c]
    constructor
    · rintro ⟨h1, h2⟩ k hk
      by_cases z : k = c
      · subst z; exact eq_of_beq h2
      · exact h1 k (by omega)
    · intro h
      exact ⟨fun k hk => h k (by omega), by rw [h c (by omega)]; exact beq_self_eq_true _⟩
theorem jal_dg {b : Nat} (h : jal b = true) (h2 : jlet b = false) : jdg b = true := by
  rw [jal_or, h2, Bool.false_or] at h
  exact h
theorem jdg_nl {b : Nat} (h : jdg b = true) : jlet b = false ∧ 48 ≤ b ∧ b ≤ 57 := by
  unfold jdg at h
  have := of_decide_eq_true h
  refine ⟨?_, this⟩
  unfold jlet
  exact decide_eq_false (by omega)
theorem jlet_b {b : Nat} (h : jlet b = true) : 97 ≤ b ∧ b ≤ 122 := by
  unfold jlet at h
  exact of_decide_eq_true h
def mso (t : Nat → Nat) (p c : Nat) : Nat := if mgdS t p c = false ∨ (jlet (t p) = false ∧ 2 < c) then 1 else if jlet (t p) = true then 2 else 3
theorem mso_3 {t : Nat → Nat} {p c : Nat} : mso t p c = 3 ↔ mgdS t p c = true ∧ jlet (t p) = false ∧ c ≤ 2 := by
  unfold mso
  cases h1 : mgdS t p c with
  | false => simp
  | true =>
    cases h2 : jlet (t p) with
    | false =>
      by_cases z : 2 < c
      · rw [if_pos (Or.inr ⟨rfl, z⟩)]
        constructor
        · intro h; cases h
        · intro h; omega
      · rw [if_neg (fun q => q.elim (fun r => by cases r) (fun r => z r.2)), if_neg (by decide)]
        exact ⟨fun _ => ⟨rfl, rfl, by omega⟩, fun _ => rfl⟩
    | true =>
      rw [if_neg (fun q => q.elim (fun r => by cases r) (fun r => by cases r.1)), if_pos rfl]
      constructor
      · intro h; cases h
      · rintro ⟨-, h, -⟩; cases h
theorem mso_2 {t : Nat → Nat} {p c : Nat} : mso t p c = 2 ↔ mgdS t p c = true ∧ jlet (t p) = true := by
  unfold mso
  cases h1 : mgdS t p c with
  | false => simp
  | true =>
    cases h2 : jlet (t p) with
    | false =>
      by_cases z : 2 < c
      · rw [if_pos (Or.inr ⟨rfl, z⟩)]; simp
      · rw [if_neg (fun q => q.elim (fun r => by cases r) (fun r => z r.2)), if_neg (by decide)]; simp
    | true => rw [if_neg (fun q => q.elim (fun r => by cases r) (fun r => by cases r.1)), if_pos rfl]; simp
theorem mso_lt {t : Nat → Nat} {p c : Nat} : 1 ≤ mso t p c ∧ mso t p c < 4 := by
  unfold mso
  split
  · omega
  · split <;> omega
section
variable {B : Nat → Nat} {p c : Nat}
theorem tok_num (hc : 1 ≤ c) (hal : ∀ k, k < c → jal (B (p + k)) = true) : (jisn B p (p + c) = true ↔ mso B p c = 3) := by
  rw [mso_3, mgd_all]
  unfold jisn
  rw [show p + c - p = c by omega, Bool.and_eq_true, decide_eq_true_eq, decide_eq_true_eq]
  have h0 := hal 0 (by omega)
  rw [Nat.add_zero] at h0
  constructor
  · rintro ⟨h1, h2⟩
    have : c = 1 ∨ c = 2 := by omega
    rcases this with rfl | rfl
    · have h3 : jdg (B p) = true := by
        cases q : jdg (B p) with
        | true => rfl
        | false =>
          have : jld B p 1 0 = 0 := by rw [jld, Nat.add_zero, if_neg (by rw [q]; decide)]
          omega
      refine ⟨fun k hk => ?_, (jdg_nl h3).1, by omega⟩
      obtain rfl : k = 0 := by omega
      rfl
    · have h3 : jdg (B p) = true := by
        cases q : jdg (B p) with
        | true => rfl
        | false =>
          have : jld B p 2 0 = 0 := by rw [jld, Nat.add_zero, if_neg (by rw [q]; decide)]
          omega
      have h4 : jdg (B (p + 1)) = true := by
        cases q : jdg (B (p + 1)) with
        | true => rfl
        | false =>
          have : jld B p 2 0 = 1 := by rw [jld, Nat.add_zero, if_pos h3, jld, if_neg (by rw [q]; decide)]
          omega
      refine ⟨fun k hk => ?_, (jdg_nl h3).1, by omega⟩
      have : k = 0 ∨ k = 1 := by omega
      rcases this with rfl | rfl
      · rfl
      · rw [(jdg_nl h3).1, (jdg_nl h4).1]
  · rintro ⟨h1, h2, h3⟩
    have h4 := jal_dg h0 h2
    have : c = 1 ∨ c = 2 := by omega
    rcases this with rfl | rfl
    · refine ⟨by omega, ?_⟩
      rw [jld, Nat.add_zero, if_pos h4]; rfl
    · have h5 := jal_dg (hal 1 (by omega)) ((h1 1 (by omega)).trans h2)
      refine ⟨by omega, ?_⟩
      rw [jld, Nat.add_zero, if_pos h4, jld, if_pos h5]; rfl
theorem tok_numv {nm : Nat} (hc : 1 ≤ c) (hal : ∀ k, k < c → jal (B (p + k)) = true) (h : mso B p c = 3) : mnmS B p c = jnb B p (p + c) nm := by
  have hn := (tok_num hc hal).mpr h
  rw [mso_3, mgd_all] at h
  obtain ⟨h1, h2, h3⟩ := h
  have h0 := hal 0 (by omega)
  rw [Nat.add_zero] at h0
  have h4 := jal_dg h0 h2
  have b4 := (jdg_nl h4).2
  unfold jisn at hn
  rw [show p + c - p = c by omega, Bool.and_eq_true, decide_eq_true_eq, decide_eq_true_eq] at hn
  unfold jnb
  rw [show p + c - p = c by omega, if_pos hn.1, hn.2]
  have : c = 1 ∨ c = 2 := by omega
  rcases this with rfl | rfl
  · show (if 0 < 2 then 10 * mnmS B p 0 + B (p + 0) - 48 else mnmS B p 0) = 0 * 10 + (B (p + 0) - 48)
    rw [if_pos (by omega)]
    show 10 * 0 + B (p + 0) - 48 = _
    omega
  · have h5 := jal_dg (hal 1 (by omega)) ((h1 1 (by omega)).trans h2)
    have b5 := (jdg_nl h5).2
    show (if 1 < 2 then 10 * (if 0 < 2 then 10 * 0 + B (p + 0) - 48 else 0) + B (p + 1) - 48 else _) = (0 * 10 + (B (p + 0) - 48)) * 10 + (B (p + 1) - 48)
    rw [if_pos (by omega), if_pos (by omega), Nat.add_zero]
    omega
end
def mwdN (t : Nat → Nat) (p : Nat) : Nat → Nat
  | 0 => 0
  | c + 1 => if c < 6 then 27 * mwdN t p c + (t (p + c) - 96) else mwdN t p c
theorem nI64 : ∀ b, b < 256 → (nI b).toInt64 = Int64.ofNat b := by decide +kernel
theorem mwd_N {t : Nat → Nat} {p : Nat} : ∀ c, (∀ k, k < c → jlet (t (p + k)) = true) → mwdS t p c = Int64.ofNat (mwdN t p c)
  | 0, _ => rfl
  | c + 1, h => by
    have hb := jlet_b (h c (by omega))
    unfold mwdS mwdN
    rw [mwd_N c (fun k hk => h k (by omega))]
    by_cases z : c < 6
    · rw [if_pos z, if_pos z, nI64 _ (by omega), Int64.ofNat_add, Int64.ofNat_mul, Int64.ofNat_sub _ _ (by omega), show (27 : Int64) = Int64.ofNat 27 from rfl, show (96 : Int64) = Int64.ofNat 96 from rfl, Int64.sub_eq_add_neg, Int64.sub_eq_add_neg, Int64.add_assoc]
    · rw [if_neg z, if_neg z]
theorem mwdN_b {t : Nat → Nat} {p : Nat} : ∀ c, (∀ k, k < c → jlet (t (p + k)) = true) → mwdN t p c < 27 ^ (min c 6) ∧ (1 ≤ c → 27 ^ (min c 6 - 1) ≤ mwdN t p c)
  | 0, _ => ⟨by show 0 < _; exact Nat.pow_pos (by omega), fun h => by omega⟩
  | c + 1, h => by
    have hb := jlet_b (h c (by omega))
    obtain ⟨h1, h2⟩ := mwdN_b c (fun k hk => h k (by omega))
    unfold mwdN
    by_cases z : c < 6
    · rw [if_pos z, Nat.min_eq_left (show c + 1 ≤ 6 by omega), Nat.pow_succ]
      rw [Nat.min_eq_left (show c ≤ 6 by omega)] at h1 h2
      refine ⟨by omega, fun _ => ?_⟩
      rw [Nat.add_sub_cancel]
      cases c with
      | zero => show 1 ≤ _; omega
      | succ c =>
        have h3 := h2 (by omega)
        rw [Nat.add_sub_cancel] at h3
        rw [Nat.pow_succ]
        omega
    · rw [if_neg z, Nat.min_eq_right (show 6 ≤ c + 1 by omega)]
      rw [Nat.min_eq_right (show 6 ≤ c by omega)] at h1 h2
      exact ⟨h1, fun _ => h2 (by omega)⟩
theorem i64_inj {a b : Nat} (ha : a < 2 ^ 62) (hb : b < 2 ^ 62) (h : Int64.ofNat a = Int64.ofNat b) : a = b := by
  have := congrArg Int64.toInt h
  rw [Int64.toInt_ofNat_of_lt (by omega), Int64.toInt_ofNat_of_lt (by omega)] at this
  omega
def WGn : Nat := 27 * (27 * (27 * (27 * 7 + 18) + 15) + 21) + 16
def WPn : Nat := 27 * (27 * 16 + 21) + 20
def WTn : Nat := 27 * (27 * (27 * (27 * 20 + 9) + 13) + 5) + 19
theorem WG_eq : mspl 103 114 111 (nI 117) (nI 112) = Int64.ofNat WGn := by decide +kernel
theorem WP_eq : mspl 112 117 116 (nI 0) (nI 0) = Int64.ofNat WPn := by decide +kernel
theorem WT_eq : mspl 116 105 109 (nI 101) (nI 115) = Int64.ofNat WTn := by decide +kernel
section
variable {B : Nat → Nat} {p c : Nat}
theorem mwd_len (hc : 1 ≤ c) (h : ∀ k, k < c → jlet (B (p + k)) = true) (L W : Nat) (hL : 1 ≤ L ∧ L ≤ 5) (hW : 27 ^ (L - 1) ≤ W ∧ W < 27 ^ L) (he : mwdN B p c = W) : c = L := by
  obtain ⟨h1, h2⟩ := mwdN_b c h
  have h2 := h2 hc
  rcases Nat.lt_trichotomy c L with z | z | z
  · exfalso
    have : 27 ^ (min c 6) ≤ 27 ^ (L - 1) := Nat.pow_le_pow_right (by omega) (by rw [Nat.min_eq_left (by omega)]; omega)
    omega
  · exact z
  · exfalso
    have : 27 ^ L ≤ 27 ^ (min c 6 - 1) := Nat.pow_le_pow_right (by omega) (by
      rcases Nat.le_total c 6 with q | q
      · rw [Nat.min_eq_left q]; omega
      · rw [Nat.min_eq_right q]; omega)
    omega
theorem jsl5 {i : Nat} : jsl B p i 5 0 = true ↔ B (p + 0) = jcn i 0 ∧ B (p + 1) = jcn i 1 ∧ B (p + 2) = jcn i 2 ∧ B (p + 3) = jcn i 3 ∧ B (p + 4) = jcn i 4 := by
  simp only [jsl]
  repeat' split
  all_goals simp_all
theorem jsl3 {i : Nat} : jsl B p i 3 0 = true ↔ B (p + 0) = jcn i 0 ∧ B (p + 1) = jcn i 1 ∧ B (p + 2) = jcn i 2 := by
  simp only [jsl]
  repeat' split
  all_goals simp_all
theorem mwdN5 : mwdN B p 5 = 27 * (27 * (27 * (27 * (27 * 0 + (B (p + 0) - 96)) + (B (p + 1) - 96)) + (B (p + 2) - 96)) + (B (p + 3) - 96)) + (B (p + 4) - 96) := by
  simp [mwdN]
theorem mwdN3 : mwdN B p 3 = 27 * (27 * (27 * 0 + (B (p + 0) - 96)) + (B (p + 1) - 96)) + (B (p + 2) - 96) := by
  simp [mwdN]
theorem spl_len : (jKb.getD 0 []).length = 5 ∧ (jKb.getD 1 []).length = 3 ∧ (jKb.getD 2 []).length = 5 := by decide
theorem jcn_v : (jcn 0 0 = 103 ∧ jcn 0 1 = 114 ∧ jcn 0 2 = 111 ∧ jcn 0 3 = 117 ∧ jcn 0 4 = 112) ∧ (jcn 1 0 = 112 ∧ jcn 1 1 = 117 ∧ jcn 1 2 = 116) ∧ (jcn 2 0 = 116 ∧ jcn 2 1 = 105 ∧ jcn 2 2 = 109 ∧ jcn 2 3 = 101 ∧ jcn 2 4 = 115) := by decide
theorem let_of (b : Nat) (h : 97 ≤ b ∧ b ≤ 122) : jlet b = true := decide_eq_true h
/-- a word of letters is told by its value -/
theorem tok_w5 (i W b0 b1 b2 b3 b4 : Nat) (hc : 1 ≤ c) (hi : (jKb.getD i []).length = 5) (hj : jcn i 0 = b0 ∧ jcn i 1 = b1 ∧ jcn i 2 = b2 ∧ jcn i 3 = b3 ∧ jcn i 4 = b4) (hb : (97 ≤ b0 ∧ b0 ≤ 122) ∧ (97 ≤ b1 ∧ b1 ≤ 122) ∧ (97 ≤ b2 ∧ b2 ≤ 122) ∧ (97 ≤ b3 ∧ b3 ≤ 122) ∧ (97 ≤ b4 ∧ b4 ≤ 122)) (hW : W = 27 * (27 * (27 * (27 * (b0 - 96) + (b1 - 96)) + (b2 - 96)) + (b3 - 96)) + (b4 - 96)) :
    jspl B p (p + c) i = true ↔ mso B p c = 2 ∧ mwdS B p c = Int64.ofNat W := by
  obtain ⟨j0, j1, j2, j3, j4⟩ := hj
  obtain ⟨l0, l1, l2, l3, l4⟩ := hb
  unfold jspl
  rw [show p + c - p = c by omega, hi, Bool.and_eq_true, decide_eq_true_eq, jsl5, j0, j1, j2, j3, j4]
  constructor
  · rintro ⟨rfl, h0, h1, h2, h3, h4⟩
    have hl : ∀ k, k < 5 → jlet (B (p + k)) = true := by
      intro k hk
      have : k = 0 ∨ k = 1 ∨ k = 2 ∨ k = 3 ∨ k = 4 := by omega
      rcases this with rfl | rfl | rfl | rfl | rfl
      · rw [h0]; exact let_of _ l0
      · rw [h1]; exact let_of _ l1
      · rw [h2]; exact let_of _ l2
      · rw [h3]; exact let_of _ l3
      · rw [h4]; exact let_of _ l4
    have hp := hl 0 (by omega)
    rw [Nat.add_zero] at hp
    refine ⟨mso_2.mpr ⟨(mgd_all 5).mpr (fun k hk => by rw [hl k hk, hp]), hp⟩, ?_⟩
    rw [mwd_N 5 hl, mwdN5, h0, h1, h2, h3, h4, hW]
    congr 1
    omega
  · rintro ⟨h1, h2⟩
    obtain ⟨h3, h4⟩ := mso_2.mp h1
    have hl : ∀ k, k < c → jlet (B (p + k)) = true := fun k hk => ((mgd_all c).mp h3 k hk).trans h4
    rw [mwd_N c hl] at h2
    have hbd := (mwdN_b c hl).1
    have h6 : 27 ^ (min c 6) ≤ 27 ^ 6 := Nat.pow_le_pow_right (by omega) (Nat.min_le_right _ _)
    have e := i64_inj (by omega) (by omega) h2
    have hc5 := mwd_len hc hl 5 W (by omega) (by constructor <;> omega) e
    subst hc5
    have b0' := jlet_b (hl 0 (by omega)); have b1' := jlet_b (hl 1 (by omega)); have b2' := jlet_b (hl 2 (by omega)); have b3' := jlet_b (hl 3 (by omega)); have b4' := jlet_b (hl 4 (by omega))
    rw [mwdN5] at e
    refine ⟨rfl, ?_, ?_, ?_, ?_, ?_⟩ <;> omega
theorem tok_w3 (i W b0 b1 b2 : Nat) (hc : 1 ≤ c) (hi : (jKb.getD i []).length = 3) (hj : jcn i 0 = b0 ∧ jcn i 1 = b1 ∧ jcn i 2 = b2) (hb : (97 ≤ b0 ∧ b0 ≤ 122) ∧ (97 ≤ b1 ∧ b1 ≤ 122) ∧ (97 ≤ b2 ∧ b2 ≤ 122)) (hW : W = 27 * (27 * (b0 - 96) + (b1 - 96)) + (b2 - 96)) :
    jspl B p (p + c) i = true ↔ mso B p c = 2 ∧ mwdS B p c = Int64.ofNat W := by
  obtain ⟨j0, j1, j2⟩ := hj
  obtain ⟨l0, l1, l2⟩ := hb
  unfold jspl
  rw [show p + c - p = c by omega, hi, Bool.and_eq_true, decide_eq_true_eq, jsl3, j0, j1, j2]
  constructor
  · rintro ⟨rfl, h0, h1, h2⟩
    have hl : ∀ k, k < 3 → jlet (B (p + k)) = true := by
      intro k hk
      have : k = 0 ∨ k = 1 ∨ k = 2 := by omega
      rcases this with rfl | rfl | rfl
      · rw [h0]; exact let_of _ l0
      · rw [h1]; exact let_of _ l1
      · rw [h2]; exact let_of _ l2
    have hp := hl 0 (by omega)
    rw [Nat.add_zero] at hp
    refine ⟨mso_2.mpr ⟨(mgd_all 3).mpr (fun k hk => by rw [hl k hk, hp]), hp⟩, ?_⟩
    rw [mwd_N 3 hl, mwdN3, h0, h1, h2, hW]
    congr 1
    omega
  · rintro ⟨h1, h2⟩
    obtain ⟨h3, h4⟩ := mso_2.mp h1
    have hl : ∀ k, k < c → jlet (B (p + k)) = true := fun k hk => ((mgd_all c).mp h3 k hk).trans h4
    rw [mwd_N c hl] at h2
    have hbd := (mwdN_b c hl).1
    have h6 : 27 ^ (min c 6) ≤ 27 ^ 6 := Nat.pow_le_pow_right (by omega) (Nat.min_le_right _ _)
    have e := i64_inj (by omega) (by omega) h2
    have hc5 := mwd_len hc hl 3 W (by omega) (by constructor <;> omega) e
    subst hc5
    have b0' := jlet_b (hl 0 (by omega)); have b1' := jlet_b (hl 1 (by omega)); have b2' := jlet_b (hl 2 (by omega))
    rw [mwdN3] at e
    refine ⟨rfl, ?_, ?_, ?_⟩ <;> omega
end
/-- the class's token and the model's -/
def mTok (len : Nat) (q : Nat × Nat × Nat × Nat) (to fr so nu : Nat) (wd : Int64) : Prop :=
  fr = q.2.2.1 ∧ so < 5 ∧ (q.2.1 = 0 ↔ so = 0) ∧ (q.2.1 = 2 ↔ so = 3) ∧ (so = 3 → nu = q.2.2.2) ∧ (q.2.1 = 3 ↔ so = 4) ∧ (q.2.1 = 4 ↔ so = 2 ∧ wd = Int64.ofNat WGn) ∧ (q.2.1 = 5 ↔ so = 2 ∧ wd = Int64.ofNat WPn) ∧ (q.2.1 = 6 ↔ so = 2 ∧ wd = Int64.ofNat WTn) ∧ (so ≠ 0 → so ≠ 1 → to = q.1) ∧ to ≤ len ∧ (so ≠ 0 → so ≠ 1 → q.2.2.1 < 300 ∧ q.2.2.1 < q.1) ∧ q.2.2.1 ≤ 300
theorem mTok_next {B : Nat → Nat} {len to nu : Nat} {wd : Int64} {q : Nat × Nat × Nat × Nat} (ht : to = q.1) (hl : to ≤ len) :
    mTok len (jtok B len q) (nxT B len to nu wd).1 (nxT B len to nu wd).2.1 (nxT B len to nu wd).2.2.1 (nxT B len to nu wd).2.2.2.1 (nxT B len to nu wd).2.2.2.2 := by
  subst ht
  have hL : min len 300 ≤ len := Nat.min_le_left _ _
  have hpl := lsk_le (B := B) (len - q.1) q.1
  by_cases hq : q.1 ≤ min len 300
  case neg =>
    have e0 : lsk B (min len 300 - q.1) q.1 = q.1 := lsk_0 (by omega)
    rw [jtok_1 e0 (by omega)]
    have h3 : 300 < len := by
      rcases Nat.lt_or_ge 300 len with z | z
      · exact z
      · rw [Nat.min_eq_left z] at hq; omega
    rw [nxT_1 rfl ⟨h3, by rw [Nat.min_eq_right (by omega)] at hq; omega⟩, if_pos h3]
    rw [Nat.min_eq_right (by omega)] at hq
    rw [Nat.min_eq_right (show 300 ≤ len by omega), Nat.min_eq_right (show 300 ≤ q.1 by omega)]
    exact ⟨rfl, by show 1 < 5; omega, by simp, by simp, by simp, by simp, by simp, by simp, by simp, fun _ h => absurd rfl h, by show lsk B (len - q.1) q.1 ≤ len; omega, fun _ h => absurd rfl h, Nat.le_refl _⟩
  case pos =>
    have hx := lsk_ext (B := B) hL (min len 300 - q.1) q.1 (by omega)
    have hPl := lsk_le (B := B) (min len 300 - q.1) q.1
    generalize hP : lsk B (min len 300 - q.1) q.1 = P at hx hPl
    by_cases hc : min len 300 ≤ P
    · have h1 := hx.2 hc
      rw [jtok_1 hP hc]
      have hPe : P = min len 300 := by omega
      by_cases h3 : 300 < len
      · have hm : min len 300 = 300 := Nat.min_eq_right (by omega)
        rw [nxT_1 rfl ⟨h3, by omega⟩, if_pos h3, hPe, hm, Nat.min_self]
        exact ⟨rfl, by show 1 < 5; omega, by simp, by simp, by simp, by simp, by simp, by simp, by simp, fun _ h => absurd rfl h, by show lsk B (len - q.1) q.1 ≤ len; omega, fun _ h => absurd rfl h, Nat.le_refl _⟩
      · have hm : min len 300 = len := Nat.min_eq_left (by omega)
        have hpe : lsk B (len - q.1) q.1 = len := by omega
        rw [nxT_2 rfl (by omega) (by omega), if_neg h3, hPe, hm, hpe, Nat.min_self]
        exact ⟨rfl, by show 0 < 5; omega, by simp, by simp, by simp, by simp, by simp, by simp, by simp, fun h => absurd rfl h, Nat.le_refl _, fun h => absurd rfl h, by show len ≤ 300; omega⟩
    · have hp := hx.1 (by omega)
      have hm3 : min len 300 ≤ 300 := Nat.min_le_right _ _
      have hmin : min P (min len 300) = P := Nat.min_eq_left (by omega)
      by_cases h59 : B P = 59
      · rw [jtok_2 hP (by omega) h59, nxT_3 hp (by omega) (by omega) (by rw [h59]; decide), if_pos h59, hmin]
        exact ⟨rfl, by show 4 < 5; omega, by simp, by simp, by simp, by simp, by simp, by simp, by simp, fun _ _ => rfl, by show P + 1 ≤ len; omega, fun _ _ => ⟨by show P < 300; omega, by show P < P + 1; omega⟩, by show P ≤ 300; omega⟩
      · have hql := lrn_le (B := B) (len - P) P
        have hall := lrn_al (B := B) (len - P) P
        rw [jtok_3 hP (by omega) h59 rfl, hmin]
        cases hal : jal (B P) with
        | false =>
          have hqe : lrn B (len - P) P = P := lrn_f hal
          have hk : jkd B P P = 1 := by
            have e1 : jisn B P P = false := jisn_1 (by omega)
            have e2 : jspl B P P 0 = false := jspl_1 (by rw [spl_len.1]; omega)
            have e3 : jspl B P P 1 = false := jspl_1 (by rw [spl_len.2.1]; omega)
            have e4 : jspl B P P 2 = false := jspl_1 (by rw [spl_len.2.2]; omega)
            rw [jkd, e1, e2, e3, e4]; rfl
          rw [nxT_3 hp (by omega) (by omega) hal, if_neg h59, hqe, hk]
          exact ⟨rfl, by show 1 < 5; omega, by simp, by simp, by simp, by simp, by simp, by simp, by simp, fun _ h => absurd rfl h, by show P + 1 ≤ len; omega, fun _ h => absurd rfl h, by show P ≤ 300; omega⟩
        | true =>
          obtain ⟨c, hcq⟩ : ∃ c, lrn B (len - P) P = P + c := ⟨lrn B (len - P) P - P, by omega⟩
          have hc1 : 1 ≤ c := by
            have : lrn B (len - P) P = lrn B (len - (P + 1)) (P + 1) := lrn_t (by omega) hal
            have := (lrn_le (B := B) (len - (P + 1)) (P + 1)).1
            omega
          have hals : ∀ k, k < c → jal (B (P + k)) = true := fun k hk => hall (P + k) (by omega) (by omega)
          rw [nxT_4 hp (by omega) (by omega) hal hcq, hcq]
          show mTok len (P + c, jkd B P (P + c), P, jnb B P (P + c) q.2.2.2) (P + c) P (mso B P c) (mnmS B P c) (mwdS B P c)
          have n1 := tok_num hc1 hals
          have w0 := tok_w5 (B := B) (p := P) 0 WGn 103 114 111 117 112 hc1 spl_len.1 jcn_v.1 (by omega) rfl
          have w1 := tok_w3 (B := B) (p := P) 1 WPn 112 117 116 hc1 spl_len.2.1 jcn_v.2.1 (by omega) rfl
          have w2 := tok_w5 (B := B) (p := P) 2 WTn 116 105 109 101 115 hc1 spl_len.2.2 jcn_v.2.2 (by omega) rfl
          have hd1 : Int64.ofNat WGn ≠ Int64.ofNat WPn := by decide +kernel
          have hd2 : Int64.ofNat WGn ≠ Int64.ofNat WTn := by decide +kernel
          have hd3 : Int64.ofNat WPn ≠ Int64.ofNat WTn := by decide +kernel
          have hml := mso_lt (t := B) (p := P) (c := c)
          have hnv := tok_numv (nm := q.2.2.2) hc1 hals
          have hk : jkd B P (P + c) = if jisn B P (P + c) = true then 2 else if jspl B P (P + c) 0 = true then 4 else if jspl B P (P + c) 1 = true then 5 else if jspl B P (P + c) 2 = true then 6 else 1 := rfl
          generalize mso B P c = so at *
          generalize mwdS B P c = wd' at *
          have hkk : (jkd B P (P + c) = 2 ↔ so = 3) ∧ jkd B P (P + c) ≠ 0 ∧ jkd B P (P + c) ≠ 3 ∧ (jkd B P (P + c) = 4 ↔ so = 2 ∧ wd' = Int64.ofNat WGn) ∧ (jkd B P (P + c) = 5 ↔ so = 2 ∧ wd' = Int64.ofNat WPn) ∧ (jkd B P (P + c) = 6 ↔ so = 2 ∧ wd' = Int64.ofNat WTn) := by
            rw [hk]
            by_cases a1 : jisn B P (P + c) = true
            · have s3 := n1.mp a1
              rw [if_pos a1]
              subst s3
              simp
            · rw [if_neg a1]
              have s3 : so ≠ 3 := fun z => a1 (n1.mpr z)
              by_cases a2 : jspl B P (P + c) 0 = true
              · obtain ⟨u1, u2⟩ := w0.mp a2
                rw [if_pos a2]
                subst u1; subst u2
                simp [hd1, hd2]
              · rw [if_neg a2]
                have s4 : ¬ (so = 2 ∧ wd' = Int64.ofNat WGn) := fun z => a2 (w0.mpr z)
                by_cases a3 : jspl B P (P + c) 1 = true
                · obtain ⟨u1, u2⟩ := w1.mp a3
                  rw [if_pos a3]
                  subst u1; subst u2
                  simp [hd1.symm, hd3]
                · rw [if_neg a3]
                  have s5 : ¬ (so = 2 ∧ wd' = Int64.ofNat WPn) := fun z => a3 (w1.mpr z)
                  by_cases a4 : jspl B P (P + c) 2 = true
                  · obtain ⟨u1, u2⟩ := w2.mp a4
                    rw [if_pos a4]
                    subst u1; subst u2
                    simp [hd2.symm, hd3.symm]
                  · rw [if_neg a4]
                    have s6 : ¬ (so = 2 ∧ wd' = Int64.ofNat WTn) := fun z => a4 (w2.mpr z)
                    simp [s3, s4, s5, s6]
          obtain ⟨k1, k2, k3, k4, k5, k6⟩ := hkk
          refine ⟨rfl, by omega, ⟨fun z => absurd z k2, fun z => by omega⟩, k1, hnv, ⟨fun z => absurd z k3, fun z => by omega⟩, k4, k5, k6, fun _ _ => rfl, ?_, fun _ _ => ⟨?_, ?_⟩, ?_⟩
          · omega
          · show P < 300; omega
          · show P < P + c; omega
          · show P ≤ 300; omega
