/-! the reader's bounds -/
theorem jld_le {B : Nat → Nat} {p : Nat} : ∀ d c, jld B p d c ≤ c + d
  | 0, c => Nat.le_refl _
  | d + 1, c => by
    have := jld_le (B := B) (p := p) d (c + 1)
    unfold jld
    split <;> omega
theorem jacc_lt {B : Nat → Nat} (hB : ∀ k, B k < 256) {p c : Nat} (hc : c ≤ 2) : jacc B p c < 2 ^ 12 := by
  match c, hc with
  | 0, _ => show 0 < 2 ^ 12; omega
  | 1, _ => have := hB (p + 0); show 0 * 10 + (B (p + 0) - 48) < _; omega
  | 2, _ => have h0 := hB (p + 0); have h1 := hB (p + 1); show (0 * 10 + (B (p + 0) - 48)) * 10 + (B (p + 1) - 48) < _; omega
theorem jtok_b {B : Nat → Nat} (hB : ∀ k, B k < 256) {len : Nat} (hl : len ≤ 340) {t : Nat × Nat × Nat × Nat} (h1 : t.1 ≤ 340) (h2 : t.2.2.2 < 2 ^ 12) : (jtok B len t).1 ≤ 340 ∧ (jtok B len t).2.1 < 10 ∧ (jtok B len t).2.2.1 ≤ 300 ∧ (jtok B len t).2.2.2 < 2 ^ 12 := by
  have hs := lsk_le (B := B) (min len 300 - t.1) t.1
  generalize hp : lsk B (min len 300 - t.1) t.1 = p at hs
  by_cases h : min len 300 ≤ p
  · rw [jtok_1 hp h]
    refine ⟨by show p ≤ 340; omega, by show (if 300 < len then 1 else 0) < 10; split <;> decide, by show min p _ ≤ 300; omega, h2⟩
  · by_cases h3 : B p = 59
    · rw [jtok_2 hp (by omega) h3]
      exact ⟨by show p + 1 ≤ 340; omega, by show 3 < 10; decide, by show min p _ ≤ 300; omega, h2⟩
    · have hr := lrn_le (B := B) (len - p) p
      rw [jtok_3 hp (by omega) h3 rfl]
      generalize lrn B (len - p) p = p2 at hr
      refine ⟨by show p2 ≤ 340; omega, ?_, by show min p _ ≤ 300; omega, ?_⟩
      · show jkd B _ p2 < 10
        unfold jkd
        repeat' split
        all_goals decide
      · show jnb B _ p2 _ < _
        unfold jnb
        split
        · rename_i q
          refine jacc_lt hB ?_
          have := jld_le (B := B) (p := min p (min len 300)) (p2 - min p (min len 300)) 0
          omega
        · exact h2
section
variable {tf : Nat → Int32} {len : Nat} {q : jRS}
theorem jRB.tok (hl : len ≤ 340) (h : jRB q) : jRB (jrTok (jbs tf) len q) := ⟨jtok_b (jbs_lt tf) hl h.1.1 h.1.2.2.2, h.2⟩
theorem jRB.fail {k pl : Nat} (hk : k < 10) (hp : pl ≤ 340) (h : jRB q) : jRB (jrFail k pl q) := ⟨h.1, h.2.1, ⟨hk, hp⟩, h.2.2.2⟩
theorem jRB.f1 {k : Nat} (hk : k < 10) (h : jRB q) : jRB (jrFail k q.1.2.2.1 q) := h.fail hk (by have := h.1.2.2.1; omega)
theorem jRB.semi (hl : len ≤ 340) (h : jRB q) : jRB (jrSemi (jbs tf) len q).2 := by
  unfold jrSemi
  split
  · exact h.tok hl
  · exact h.f1 (by decide)
theorem jRB.elt (hl : len ≤ 340) : ∀ (d i el : Nat) (q : jRS), jRB q → jRB (jrElt (jbs tf) len d i el q).2
  | 0, _, _, _, h => h
  | d + 1, i, el, q, h => by
    unfold jrElt
    split
    · exact h
    · split
      · exact h.f1 (by decide)
      · split
        · exact h.f1 (by decide)
        · exact jRB.elt hl d _ _ _ (h.tok hl)
theorem jRB.how (hl : len ≤ 340) (h : jRB q) : jRB (jrHow (jbs tf) len q).2 := by
  unfold jrHow
  split
  · exact h.f1 (by decide)
  · split
    · exact h.f1 (by decide)
    · exact h.tok hl
theorem jcode_lt {gc nm i : Nat} (hg : gc < 2 ^ 15) (hn : nm ≤ 24) (hi : i < 3) : gc ||| nm <<< (5 * i) < 2 ^ 15 := by
  refine Nat.or_lt_two_pow hg ?_
  rw [Nat.shiftLeft_eq]
  have : 2 ^ (5 * i) ≤ 2 ^ 10 := Nat.pow_le_pow_right (by omega) (by omega)
  have : nm * 2 ^ (5 * i) ≤ 24 * 2 ^ 10 := Nat.mul_le_mul hn this
  omega
theorem jRB.grp (hl : len ≤ 340) : ∀ (d i od : Nat) (q : jRS), i + d ≤ 3 → jRB q → jRB (jrGrp (jbs tf) len d i od q).2
  | 0, _, _, _, _, h => h.semi hl
  | d + 1, i, od, q, hi, h => by
    unfold jrGrp
    split
    · exact h.semi hl
    · split
      · exact h.f1 (by decide)
      · split
        · exact h.f1 (by decide)
        · rename_i h3
          refine jRB.grp hl d _ _ _ (by omega) (jRB.tok hl ⟨h.1, ⟨jcode_lt h.2.1.1 (by omega) (by omega), h.2.1.2⟩, h.2.2⟩)
theorem jRB.group (hl : len ≤ 340) (h : jRB q) : jRB (jrGroup (jbs tf) len q).2 := by
  unfold jrGroup
  split
  · exact h.f1 (by decide)
  · exact jRB.grp hl 3 0 1 _ (by omega) (h.tok hl)
theorem jrApp_len {e : Nat} : ∀ d (q : jRS), (jrApp e d q).2.2.2.1 = q.2.2.2.1 + d
  | 0, _ => rfl
  | d + 1, q => by show (jrApp e d q).2.2.2.1 + 1 = _; rw [jrApp_len d q]; omega
theorem jrApp_o {e : Nat} : ∀ d (q : jRS), (jrApp e d q).1 = q.1 ∧ (jrApp e d q).2.1 = q.2.1 ∧ (jrApp e d q).2.2.1 = q.2.2.1
  | 0, _ => ⟨rfl, rfl, rfl⟩
  | d + 1, q => jrApp_o d q
theorem jRB.app {e d : Nat} (hd : q.2.2.2.1 + d ≤ 12) (h : jRB q) : jRB (jrApp e d q) := by
  obtain ⟨a, b, c⟩ := jrApp_o (e := e) d q
  unfold jRB
  rw [a, b, c, jrApp_len]
  exact ⟨h.1, h.2.1, h.2.2.1, hd⟩
theorem jov_some {o : Option Nat} (h : ¬ jov o = -1) : ∃ e, o = some e := by
  cases o with
  | none => exact absurd rfl h
  | some e => exact ⟨e, rfl⟩
theorem jov_none {o : Option Nat} (hs : ∀ e, o = some e → e < 2 ^ 31) (h : jov o = -1) : o = none := by
  cases o with
  | none => rfl
  | some e =>
    have := congrArg Int32.toInt (show nI e = -1 from h)
    rw [nI_toInt (hs e rfl)] at this
    have h2 : ((-1 : Int32).toInt) = -1 := by decide
    omega
variable {B : Nat → Nat}
theorem jrSemi_r : (jrSemi B len q).2.2.2.2.1 = q.2.2.2.1 := by unfold jrSemi; split <;> rfl
theorem jrElt_0 {i el : Nat} (h : 3 ≤ i) : jrElt B len (3 - i) i el q = (some el, q) := by rw [show 3 - i = 0 by omega]; rfl
theorem jrElt_z {i el : Nat} (h : i < 3) (hz : gsz q.2.1.1 i = 0) : jrElt B len (3 - i) i el q = (some el, q) := by rw [show 3 - i = (3 - (i + 1)) + 1 by omega, jrElt, if_pos hz]
theorem jrElt_1 {i el : Nat} (h : i < 3) (hz : 0 < gsz q.2.1.1 i) (h1 : ¬ q.1.2.1 = 2) : jrElt B len (3 - i) i el q = (none, jrFail 1 q.1.2.2.1 q) := by rw [show 3 - i = (3 - (i + 1)) + 1 by omega, jrElt, if_neg (by omega), if_pos h1]
theorem jrElt_2 {i el : Nat} (h : i < 3) (hz : 0 < gsz q.2.1.1 i) (h1 : q.1.2.1 = 2) (h2 : gsz q.2.1.1 i ≤ q.1.2.2.2) : jrElt B len (3 - i) i el q = (none, jrFail 2 q.1.2.2.1 q) := by rw [show 3 - i = (3 - (i + 1)) + 1 by omega, jrElt, if_neg (by omega), if_neg (by omega), if_pos h2]
theorem jrElt_s {i el : Nat} (h : i < 3) (hz : 0 < gsz q.2.1.1 i) (h1 : q.1.2.1 = 2) (h2 : q.1.2.2.2 < gsz q.2.1.1 i) : jrElt B len (3 - i) i el q = jrElt B len (3 - (i + 1)) (i + 1) (el * gsz q.2.1.1 i + q.1.2.2.2) (jrTok B len q) := by rw [show 3 - i = (3 - (i + 1)) + 1 by omega, jrElt, if_neg (by omega), if_neg (by omega), if_neg (by omega)]
theorem jrGrp_0 {i od : Nat} (h : 3 ≤ i) : jrGrp B len (3 - i) i od q = jrSemi B len q := by rw [show 3 - i = 0 by omega]; rfl
theorem jrGrp_z {i od : Nat} (h : i < 3) (h0 : ¬ i = 0) (h1 : ¬ q.1.2.1 = 2) : jrGrp B len (3 - i) i od q = jrSemi B len q := by rw [show 3 - i = (3 - (i + 1)) + 1 by omega, jrGrp, if_pos ⟨h0, h1⟩]
theorem jrGrp_1 {i od : Nat} (h : i < 3) (h0 : i = 0) (h1 : ¬ q.1.2.1 = 2) : jrGrp B len (3 - i) i od q = (false, jrFail 1 q.1.2.2.1 q) := by rw [show 3 - i = (3 - (i + 1)) + 1 by omega, jrGrp, if_neg (fun z => z.1 h0), if_pos h1]
theorem jrGrp_2 {i od : Nat} (h : i < 3) (h1 : q.1.2.1 = 2) (h2 : q.1.2.2.2 < 2 ∨ 24 < q.1.2.2.2 ∨ 24 < od * q.1.2.2.2) : jrGrp B len (3 - i) i od q = (false, jrFail 2 q.1.2.2.1 q) := by rw [show 3 - i = (3 - (i + 1)) + 1 by omega, jrGrp, if_neg (fun z => z.2 h1), if_neg (fun z => z h1), if_pos h2]
theorem jrGrp_s {i od : Nat} (h : i < 3) (h1 : q.1.2.1 = 2) (h2 : ¬ (q.1.2.2.2 < 2 ∨ 24 < q.1.2.2.2 ∨ 24 < od * q.1.2.2.2)) : jrGrp B len (3 - i) i od q = jrGrp B len (3 - (i + 1)) (i + 1) (od * q.1.2.2.2) (jrTok B len (q.1, (q.2.1.1 ||| q.1.2.2.2 <<< (5 * i), q.2.1.2), q.2.2)) := by rw [show 3 - i = (3 - (i + 1)) + 1 by omega, jrGrp, if_neg (fun z => z.2 h1), if_neg (fun z => z h1), if_neg h2]
end
