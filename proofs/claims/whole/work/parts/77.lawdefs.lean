/-! the law: its world, what holds between class and model, rows of the script -/
def lW (γ : jγ) (ca ma : Nat → Nat) (oa : Nat) (dsd : Int32) (tl : Nat) (tf : Nat → Int32) (q : jRS) (cd pt od ex : Nat) (mf af : Nat → Nat) (n : Nat) (f : Nat → Nat) (trn : Nat) (trf : Nat → Nat) (oon : Nat) (oof : Nat → Nat) (nx pl : Nat) (ln : Nat → Nat) (rf : Nat → Nat → Nat) (ic il : Nat → Nat) (ik : Nat → Bool) (iff : Nat → Nat → Nat) (pn : Nat) (M W : Nat → Nat → Nat) (s0 s1 s2 s3 : Nat → Nat) (sgc wh : Nat) (m0 m1 m2 : Nat → Nat) (rn : Nat) (rfp : Nat → Nat) (sg : Nat) (C : Nat → Nat) (gl : Nat) (gf : Nat → Nat) (fl : Nat) (ff : Nat → Nat) (mth mfw mse : Int32) (mwd : Int64) (mtd msz mto mfr mso mnu mfa mpl mro msm mln : Nat) (t w r9 KF SS bf lv9 : Nat → Nat) (mik : Nat → Bool) (su : Nat → Nat) (be : Nat → Bool) (fe my : Nat → Int32) (O9 : Nat → Nat) (S9 : Nat → Bool) (LF TF C9 rn9 rb TB : Nat → Nat) (o9 : Nat → Int64) : va_W := [((ca 0), .inr (10, [.ref (ca 2), .ref (ca 1), .ref (ca 6), .ref (ca 9), .ref (ca 11), .ref (ca 13), .ref (ca 15), .ref (ca 33), .ref (ca 40), .ref (ca 69), .ref (ca 74), .ref (ca 80), .int dsd])), ((ca 1), .inr (5, [.ref (ca 2), .int (nI q.1.1), .int (nI q.1.2.1), .int (nI q.1.2.2.1), .int (nI q.1.2.2.2), .int (nI q.2.1.1), .int (nI q.2.1.2), .int (nI q.2.2.1.1), .int (nI q.2.2.1.2.1), .int q.2.2.1.2.2, .ref (ca 4)])), ((ca 2), .inr (9, [.ref (ca 3), .int (nI tl)])), ((ca 3), .inl (γ.2 1, 340, .inl tf)), ((ca 4), .inr (6, [.ref (ca 5), .int (nI q.2.2.2.1)])), ((ca 5), .inl (γ.2 0, 12, .inl (fun j => nI (q.2.2.2.2 j)))), ((ca 6), .inr (0, [.ref (ca 7), .ref (ca 8), .int (nI cd), .int (nI pt), .int (nI od), .int (nI ex)])), ((ca 7), .inl (γ.2 1, 576, .inl (fun j => nI (mf j)))), ((ca 8), .inl (γ.2 1, 24, .inl (fun j => nI (af j)))), ((ca 9), .inr (6, [.ref (ca 10), .int (nI n)])), ((ca 10), .inl (γ.2 0, 12, .inl (fun j => nI (f j)))), ((ca 11), .inr (6, [.ref (ca 12), .int (nI trn)])), ((ca 12), .inl (γ.2 0, 12, .inl (fun j => nI (trf j)))), ((ca 13), .inr (6, [.ref (ca 14), .int (nI oon)])), ((ca 14), .inl (γ.2 0, 12, .inl (fun j => nI (oof j)))), ((ca 15), .inr (4, [.ref (ca 16), .int (nI nx), .int (nI pl)])), ((ca 16), .inl (γ.2 5, 8, .inr (.inr (.inr (.inr (fun i => some (ca (17 + 2 * i)))))))), ((ca 17), .inr (6, [.ref (ca 18), .int (nI (ln 0))])), ((ca 18), .inl (γ.2 0, 12, .inl (fun j => nI ((rf 0) j)))), ((ca 19), .inr (6, [.ref (ca 20), .int (nI (ln 1))])), ((ca 20), .inl (γ.2 0, 12, .inl (fun j => nI ((rf 1) j)))), ((ca 21), .inr (6, [.ref (ca 22), .int (nI (ln 2))])), ((ca 22), .inl (γ.2 0, 12, .inl (fun j => nI ((rf 2) j)))), ((ca 23), .inr (6, [.ref (ca 24), .int (nI (ln 3))])), ((ca 24), .inl (γ.2 0, 12, .inl (fun j => nI ((rf 3) j)))), ((ca 25), .inr (6, [.ref (ca 26), .int (nI (ln 4))])), ((ca 26), .inl (γ.2 0, 12, .inl (fun j => nI ((rf 4) j)))), ((ca 27), .inr (6, [.ref (ca 28), .int (nI (ln 5))])), ((ca 28), .inl (γ.2 0, 12, .inl (fun j => nI ((rf 5) j)))), ((ca 29), .inr (6, [.ref (ca 30), .int (nI (ln 6))])), ((ca 30), .inl (γ.2 0, 12, .inl (fun j => nI ((rf 6) j)))), ((ca 31), .inr (6, [.ref (ca 32), .int (nI (ln 7))])), ((ca 32), .inl (γ.2 0, 12, .inl (fun j => nI ((rf 7) j)))), ((ca 33), .inl (γ.2 6, 2, .inr (.inr (.inr (.inr (fun i => some (ca (34 + 3 * i)))))))), ((ca 34), .inr (1, [.ref (ca 35), .int (nI (ic 0)), .int (jB (ik 0))])), ((ca 35), .inr (6, [.ref (ca 36), .int (nI (il 0))])), ((ca 36), .inl (γ.2 0, 12, .inl (fun j => nI ((iff 0) j)))), ((ca 37), .inr (1, [.ref (ca 38), .int (nI (ic 1)), .int (jB (ik 1))])), ((ca 38), .inr (6, [.ref (ca 39), .int (nI (il 1))])), ((ca 39), .inl (γ.2 0, 12, .inl (fun j => nI ((iff 1) j)))), ((ca 40), .inr (8, [.ref (ca 41), .ref (ca 55), .int (nI pn)])), ((ca 41), .inl (γ.2 4, 13, .inr (.inr (.inr (.inr (fun i => some (ca (42 + i)))))))), ((ca 42), .inl (γ.2 0, 13, .inl (fun j => nI ((M 0) j)))), ((ca 43), .inl (γ.2 0, 13, .inl (fun j => nI ((M 1) j)))), ((ca 44), .inl (γ.2 0, 13, .inl (fun j => nI ((M 2) j)))), ((ca 45), .inl (γ.2 0, 13, .inl (fun j => nI ((M 3) j)))), ((ca 46), .inl (γ.2 0, 13, .inl (fun j => nI ((M 4) j)))), ((ca 47), .inl (γ.2 0, 13, .inl (fun j => nI ((M 5) j)))), ((ca 48), .inl (γ.2 0, 13, .inl (fun j => nI ((M 6) j)))), ((ca 49), .inl (γ.2 0, 13, .inl (fun j => nI ((M 7) j)))), ((ca 50), .inl (γ.2 0, 13, .inl (fun j => nI ((M 8) j)))), ((ca 51), .inl (γ.2 0, 13, .inl (fun j => nI ((M 9) j)))), ((ca 52), .inl (γ.2 0, 13, .inl (fun j => nI ((M 10) j)))), ((ca 53), .inl (γ.2 0, 13, .inl (fun j => nI ((M 11) j)))), ((ca 54), .inl (γ.2 0, 13, .inl (fun j => nI ((M 12) j)))), ((ca 55), .inl (γ.2 4, 13, .inr (.inr (.inr (.inr (fun i => some (ca (56 + i)))))))), ((ca 56), .inl (γ.2 0, 24, .inl (fun j => nI ((W 0) j)))), ((ca 57), .inl (γ.2 0, 24, .inl (fun j => nI ((W 1) j)))), ((ca 58), .inl (γ.2 0, 24, .inl (fun j => nI ((W 2) j)))), ((ca 59), .inl (γ.2 0, 24, .inl (fun j => nI ((W 3) j)))), ((ca 60), .inl (γ.2 0, 24, .inl (fun j => nI ((W 4) j)))), ((ca 61), .inl (γ.2 0, 24, .inl (fun j => nI ((W 5) j)))), ((ca 62), .inl (γ.2 0, 24, .inl (fun j => nI ((W 6) j)))), ((ca 63), .inl (γ.2 0, 24, .inl (fun j => nI ((W 7) j)))), ((ca 64), .inl (γ.2 0, 24, .inl (fun j => nI ((W 8) j)))), ((ca 65), .inl (γ.2 0, 24, .inl (fun j => nI ((W 9) j)))), ((ca 66), .inl (γ.2 0, 24, .inl (fun j => nI ((W 10) j)))), ((ca 67), .inl (γ.2 0, 24, .inl (fun j => nI ((W 11) j)))), ((ca 68), .inl (γ.2 0, 24, .inl (fun j => nI ((W 12) j)))), ((ca 69), .inr (7, [.ref (ca 70), .ref (ca 71), .ref (ca 72), .ref (ca 73)])), ((ca 70), .inl (γ.2 0, 24, .inl (fun j => nI (s0 j)))), ((ca 71), .inl (γ.2 0, 24, .inl (fun j => nI (s1 j)))), ((ca 72), .inl (γ.2 0, 13, .inl (fun j => nI (s2 j)))), ((ca 73), .inl (γ.2 0, 13, .inl (fun j => nI (s3 j)))), ((ca 74), .inr (3, [.ref (ca 75), .ref (ca 76), .ref (ca 77), .ref (ca 78), .int (nI sgc), .int (nI wh)])), ((ca 75), .inl (γ.2 1, 4096, .inl (fun j => nI (m0 j)))), ((ca 76), .inl (γ.2 1, 4096, .inl (fun j => nI (m1 j)))), ((ca 77), .inl (γ.2 1, 4096, .inl (fun j => nI (m2 j)))), ((ca 78), .inr (6, [.ref (ca 79), .int (nI rn)])), ((ca 79), .inl (γ.2 0, 12, .inl (fun j => nI (rfp j)))), ((ca 80), .inr (2, [.ref (ca 81), .ref (ca 82), .ref (ca 84), .int (nI sg)])), ((ca 81), .inl (γ.2 0, 13, .inl (fun j => nI (C j)))), ((ca 82), .inr (6, [.ref (ca 83), .int (nI gl)])), ((ca 83), .inl (γ.2 0, 12, .inl (fun j => nI (gf j)))), ((ca 84), .inr (6, [.ref (ca 85), .int (nI fl)])), ((ca 85), .inl (γ.2 0, 12, .inl (fun j => nI (ff j)))), ((ma 0), .inr (11, [.int mth, .ref (ma 1), .int (nI mtd), .int (nI msz), .int (nI mto), .int (nI mfr), .int (nI mso), .int (nI mnu), .int (nI mfa), .int mfw, .int (nI mpl), .int (nI mro), .long mwd, .ref (ma 2), .ref (ma 3), .ref (ma 4), .ref (ma 5), .ref (ma 6), .ref (ma 7), .ref (ma 8), .int (nI msm), .ref (ma 9), .ref (ma 10), .ref (ma 11), .ref (ma 12), .ref (ma 13), .ref (ma 14), .ref (ma 15), .ref (ma 16), .ref (ma 17), .ref (ma 18), .ref (ma 19), .int (nI mln), .ref (ma 20), .int mse])), ((ma 1), .inl (γ.2 0, 340, .inl (fun j => nI (t j)))), ((ma 2), .inl (γ.2 0, 17, .inl (fun j => nI (w j)))), ((ma 3), .inl (γ.2 0, 17, .inl (fun j => nI (r9 j)))), ((ma 4), .inl (γ.2 0, 34, .inl (fun j => nI (KF j)))), ((ma 5), .inl (γ.2 0, 136, .inl (fun j => nI (SS j)))), ((ma 6), .inl (γ.2 0, 17, .inl (fun j => nI (bf j)))), ((ma 7), .inl (γ.2 0, 17, .inl (fun j => nI (lv9 j)))), ((ma 8), .inl (γ.2 2, 2, .inl (fun j => jB (mik j)))), ((ma 9), .inl (γ.2 0, 4096, .inl (fun j => nI (su j)))), ((ma 10), .inl (γ.2 2, 4096, .inl (fun j => jB (be j)))), ((ma 11), .inl (γ.2 0, 4096, .inl fe)), ((ma 12), .inl (γ.2 0, 4096, .inl my)), ((ma 13), .inl (γ.2 0, 325, .inl (fun j => nI (O9 j)))), ((ma 14), .inl (γ.2 2, 325, .inl (fun j => jB (S9 j)))), ((ma 15), .inl (γ.2 0, 12, .inl (fun j => nI (LF j)))), ((ma 16), .inl (γ.2 0, 12, .inl (fun j => nI (TF j)))), ((ma 17), .inl (γ.2 0, 13, .inl (fun j => nI (C9 j)))), ((ma 18), .inl (γ.2 0, 13, .inl (fun j => nI (rn9 j)))), ((ma 19), .inl (γ.2 0, 13, .inl (fun j => nI (rb j)))), ((ma 20), .inl (γ.2 0, 512, .inl (fun j => nI (TB j)))), (oa, .inl (γ.2 3, 1, .inr (.inl o9)))]
/-- class and model tell of the same -/
abbrev lR (tl : Nat) (tf : Nat → Int32) (q : jRS) (cd pt od ex : Nat) (mf af : Nat → Nat) (n : Nat) (f : Nat → Nat) (nx pl : Nat) (ln : Nat → Nat) (rf : Nat → Nat → Nat) (ic il : Nat → Nat) (ik : Nat → Bool) (iff : Nat → Nat → Nat) (sgc wh : Nat) (m0 m1 m2 : Nat → Nat) (rn : Nat) (rfp : Nat → Nat) (sg : Nat) (C : Nat → Nat) (fl : Nat) (ff : Nat → Nat) (mfw : Int32) (mtd mfa msm : Nat) (t w KF SS : Nat → Nat) (mik : Nat → Bool) : Prop :=
  (tl ≤ 340 ∧ t = jbs tf ∧ mtd = tl) ∧ (jRB q ∧ mfa = q.2.2.1.1 ∧ mfw = q.2.2.1.2.2) ∧ gIs cd pt od ex mf af ∧ mIs cd n f w ∧ (nx < 8 ∧ pl ≤ 8 ∧ (∀ i, i < 8 → ln i ≤ 12) ∧ pR cd nx pl ln rf SS ∧ msm = pl) ∧ (mik = ik ∧ ∀ k, k < 2 → ik k = true → mIs (ic k) (il k) (iff k) (fun j => KF (17 * k + j))) ∧ (sgc < 2 ^ 15 ∧ jPB wh rn m0 m1 m2 ∧ (∀ j, j < rn → rfp j < 24) ∧ (rn ≠ 0 → jPV sgc rn rfp wh m0 m1 m2)) ∧ (sg < 2 ^ 15 ∧ (sg ≠ 0 → mPV sg C fl ff))
def jScr (x : jE) (b L : Nat) (xs : Nat → Int32) : Prop := va_X b L xs (jS x) (jS x).heap ∧ b < (jS x).heap.size ∧ ¬ jA x b
section
variable {γ : jγ} {l : Launch} {x : jE} {ws : va_W} {lv : List (Option Value)} {st : List Value} {cs sl pc : Nat}
variable {rm : Room} {cc : ByteArray} {own : String} {ret : Option FieldType}
theorem J.sld (g : jG γ x rm cc own ret) {b L : Nat} {xs : Nat → Int32} (hX : jScr x b L xs) {k : Nat} {v : Int32} (hk : k < L) (hL : L < 2 ^ 31) (hv : xs k = v) (hd : decode cc pc = .ok (.iaload, 1)) (kk : J γ l x ws lv (.int v :: st) cs sl (pc + 1)) : J γ l x ws lv (.int (nI k) :: .ref b :: st) cs sl pc := fun H locs ls hP hD hS hl0 => va_sld g.1 g.2.1 hX.1 hX.2.1 hX.2.2 hS (nI_in hk hL) hd (by rw [nI_clamp (by omega), hv]; exact kk H locs ls hP hD hS hl0)
theorem J.slen (g : jG γ x rm cc own ret) {b L : Nat} {xs : Nat → Int32} (hX : jScr x b L xs) (hd : decode cc pc = .ok (.arraylength, 1)) (kk : J γ l x ws lv (.int (nI L) :: st) cs sl (pc + 1)) : J γ l x ws lv (.ref b :: st) cs sl pc := fun H locs ls hP hD hS hl0 => va_slen g.1 g.2.1 hX.1 hX.2.1 hX.2.2 hS hd (kk H locs ls hP hD hS hl0)
end
theorem mIn01_t {w : Int32} (h : mIn w (nI 0) (nI 1) = true) : ¬ w < 0 ∧ w ≤ nI 1 := by
  have h1 := of_decide_eq_true h
  rw [nI_toInt (by decide), nI_toInt (by decide)] at h1
  refine ⟨?_, ?_⟩
  · rw [Int32.lt_iff_toInt_lt, Int32.toInt_zero]; omega
  · rw [Int32.le_iff_toInt_le, nI_toInt (by decide)]; omega
theorem mIn01_f {w : Int32} (h : mIn w (nI 0) (nI 1) = false) : w < 0 ∨ ¬ w ≤ nI 1 := by
  by_cases h0 : w < 0
  · exact Or.inl h0
  · by_cases h1 : w ≤ nI 1
    · have : mIn w (nI 0) (nI 1) = true := by
        refine decide_eq_true ⟨?_, ?_⟩
        · rw [nI_toInt (by decide)]; rw [Int32.lt_iff_toInt_lt, Int32.toInt_zero] at h0; omega
        · exact Int32.le_iff_toInt_le.mp h1
      rw [this] at h; cases h
    · exact Or.inr h1
theorem mIn_has9 {i : Int32} {n : Nat} (hn : n < 2 ^ 30) : mIn i (nI 0) (nI n) = jhas i (n + 1) := by
  unfold mIn jhas
  rw [nI_toInt (by decide), nI_toInt (by omega)]
  by_cases h : 0 ≤ i.toInt ∧ i.toInt < (n + 1 : Nat)
  · rw [decide_eq_true h, decide_eq_true ⟨by omega, by omega⟩]
  · rw [decide_eq_false h, decide_eq_false (by omega)]
theorem mIn1_f {i : Int32} {n : Nat} (hn : n < 2 ^ 30) (h : jhas i (n + 1) = false) : mIn i (nI 1) (nI n) = false := by
  have h1 := of_decide_eq_false h
  refine decide_eq_false ?_
  rw [nI_toInt (by decide), nI_toInt (by omega)]; omega
theorem mIn_k9 {i : Int32} {a b : Nat} (ha : a < 2 ^ 30) (hb : b < 2 ^ 30) (h : mIn i (nI a) (nI b) = true) : ∃ k : Nat, a ≤ k ∧ k ≤ b ∧ i = nI k := by
  have h1 := of_decide_eq_true h
  rw [nI_toInt (by omega), nI_toInt (by omega)] at h1
  obtain ⟨k, hk, rfl⟩ := jhas_t (i := i) (n := b + 1) (decide_eq_true ⟨by omega, by omega⟩)
  rw [nI_toInt (by omega)] at h1
  exact ⟨k, by omega, by omega, rfl⟩
theorem mIn_lg {i : Int32} {a b : Nat} (h : mIn i (nI a) (nI b) = false) : i < nI a ∨ nI b < i := by
  have h1 := of_decide_eq_false h
  rw [Int32.lt_iff_toInt_lt, Int32.lt_iff_toInt_lt]; omega
theorem jcutn_le {i : Int32} {n : Nat} (h : n ≤ 340) : jcutn i n ≤ 340 := by
  unfold jcutn
  split
  · rename_i h1
    obtain ⟨h2, h3⟩ := of_decide_eq_true h1
    obtain ⟨k, hk, rfl⟩ := jhas_t (i := i) (n := n + 1) (decide_eq_true ⟨h2, by omega⟩)
    rw [nI_clamp (by omega)]; omega
  · exact h
/-! the code of a group read is one of the codes -/
theorem jrSemi_c {B : Nat → Nat} {len : Nat} {q : jRS} : (jrSemi B len q).2.2.1.1 = q.2.1.1 := by
  unfold jrSemi; split <;> rfl
theorem jrElt_c {B : Nat → Nat} {len : Nat} : ∀ k i el (q : jRS), (jrElt B len k i el q).2.2.1.1 = q.2.1.1
  | 0, _, _, _ => rfl
  | k + 1, i, el, q => by
    rw [jrElt]
    split
    · rfl
    · split
      · rfl
      · split
        · rfl
        · exact jrElt_c k _ _ _
theorem jrHow_c {B : Nat → Nat} {len : Nat} {q : jRS} : (jrHow B len q).2.2.1.1 = q.2.1.1 := by
  unfold jrHow
  split
  · rfl
  · split <;> rfl
theorem jrApp_c (el : Nat) : ∀ k (q : jRS), (jrApp el k q).2.1.1 = q.2.1.1
  | 0, _ => rfl
  | k + 1, q => jrApp_c el k q
theorem jrPut2_c {B : Nat → Nat} {len pl el : Nat} {told : Bool} {h : Option Nat × jRS} : (jrPut2 B len pl el told h).2.2.1.1 = h.2.2.1.1 := by
  unfold jrPut2
  split
  · rfl
  · split
    · exact jrSemi_c
    · split
      · exact jrSemi_c
      · exact (jrApp_c _ _ _).trans jrSemi_c
theorem jrPut_c {B : Nat → Nat} {len : Nat} {q : jRS} : (jrPut B len q).2.2.1.1 = q.2.1.1 := by
  unfold jrPut
  split
  · rfl
  · have h0 := jrElt_c (B := B) (len := len) 3 0 0 (jrTok B len q)
    unfold jrPut1
    split
    · exact h0
    · split
      · exact (jrPut2_c.trans jrHow_c).trans h0
      · exact jrPut2_c.trans h0
theorem jrGrp_c {B : Nat → Nat} {len : Nat} : ∀ k i od (q : jRS), i + k = 3 → q.2.1.1 ∈ jcodes → gpt q.2.1.1 = i → od = (if gpt q.2.1.1 = 0 then 1 else god q.2.1.1) → (jrGrp B len k i od q).2.2.1.1 ∈ jcodes
  | 0, _, _, q, _, hc, _, _ => by rw [jrGrp, jrSemi_c]; exact hc
  | k + 1, i, od, q, hk, hc, hi, ho => by
    rw [jrGrp]
    split
    · rw [jrSemi_c]; exact hc
    · split
      · exact hc
      · split
        · exact hc
        · rename_i h3
          obtain ⟨a1, a2, -, -, a5⟩ := g_more q.2.1.1 hc q.1.2.2.2 (by omega) (by omega) (by omega) (by rw [← ho]; omega)
          rw [hi] at a1 a2 a5
          refine jrGrp_c k (i + 1) (od * q.1.2.2.2) _ (by omega) a1 a2 ?_
          show od * q.1.2.2.2 = if gpt (q.2.1.1 ||| q.1.2.2.2 <<< (5 * i)) = 0 then 1 else god (q.2.1.1 ||| q.1.2.2.2 <<< (5 * i))
          rw [a2, if_neg (by omega), a5, ho, hi]
theorem jrAll_c {B : Nat → Nat} {len : Nat} : ∀ k i (q : jRS), q.2.1.1 ∈ jcodes → (i = 0 → q.2.1.1 = 0) → (jrAll B len k i q).2.1.1 ∈ jcodes
  | 0, _, _, h, _ => h
  | k + 1, i, q, h, h0 => by
    have hr : (jrRow B len i q).2.2.1.1 ∈ jcodes := by
      unfold jrRow
      split
      · rename_i hi
        have hz := h0 hi
        unfold jrGroup
        split
        · exact h
        · refine jrGrp_c 3 0 1 (jrTok B len q) rfl h ?_ ?_
          · show gpt q.2.1.1 = 0
            rw [hz]; rfl
          · show 1 = if gpt q.2.1.1 = 0 then 1 else god q.2.1.1
            rw [hz]; rfl
      · rw [jrPut_c]; exact h
    rw [jrAll]
    split
    · exact h
    · split
      · exact h
      · refine jrAll_c k (i + 1) _ ?_ (fun z => by omega)
        split
        · exact hr
        · exact hr
theorem jRes_c {tf : Nat → Int32} {tl : Nat} {q : jRS} : (jRes tf tl q).2.1.1 ∈ jcodes := by
  unfold jRes
  exact jrAll_c 301 0 _ (show (0 : Nat) ∈ jcodes by decide +kernel) (fun _ => rfl)

