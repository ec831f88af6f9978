/-! rows of a text -/
theorem jrElt_el {B : Nat → Nat} {len e : Nat} : ∀ (d i el : Nat) (q : jRS), (jrElt B len d i el q).1 = some e → e < (el + 1) * 32 ^ d
  | 0, i, el, q, h => by
    have : el = e := Option.some.inj h
    omega
  | d + 1, i, el, q, h => by
    have hp := Nat.pow_pos (n := d) (show 0 < 32 by decide)
    have h32 : (el + 1) * 32 ^ (d + 1) = ((el + 1) * 32) * 32 ^ d := by rw [Nat.pow_succ, Nat.mul_comm (32 ^ d) 32, Nat.mul_assoc]
    unfold jrElt at h
    by_cases h1 : gsz q.2.1.1 i = 0
    · rw [if_pos h1] at h
      have : el = e := Option.some.inj h
      subst this
      rw [h32]
      have : (el + 1) * 1 ≤ ((el + 1) * 32) * 32 ^ d := Nat.le_trans (by omega) (Nat.le_mul_of_pos_right _ hp)
      omega
    · rw [if_neg h1] at h
      by_cases h2 : q.1.2.1 = 2
      · rw [if_neg (fun z => z h2)] at h
        by_cases h3 : gsz q.2.1.1 i ≤ q.1.2.2.2
        · rw [if_pos h3] at h; cases h
        · rw [if_neg h3] at h
          have := jrElt_el d _ _ _ h
          have hs := gsz_lt q.2.1.1 i
          rw [h32]
          refine Nat.lt_of_lt_of_le this (Nat.mul_le_mul_right _ ?_)
          have : (el + 1) * gsz q.2.1.1 i ≤ (el + 1) * 32 := Nat.mul_le_mul_left _ (by omega)
          rw [Nat.add_mul, Nat.one_mul] at this
          omega
      · rw [if_pos h2] at h; cases h
theorem jrElt_b {B : Nat → Nat} {len e : Nat} {q : jRS} (h : (jrElt B len 3 0 0 q).1 = some e) : e < 2 ^ 31 := by have := jrElt_el 3 0 0 q h; omega
theorem jrHow_b {B : Nat → Nat} {len n : Nat} {q : jRS} (h : (jrHow B len q).1 = some n) : 1 ≤ n ∧ (jrHow B len q).2.2.2.2.1 + n ≤ 12 := by
  unfold jrHow at h ⊢
  by_cases h1 : q.1.2.1 = 2
  · rw [if_neg (fun z => z h1)] at h ⊢
    by_cases h2 : q.1.2.2.2 < 1 ∨ 12 < q.2.2.2.1 + q.1.2.2.2
    · rw [if_pos h2] at h; cases h
    · rw [if_neg h2] at h ⊢
      have : q.1.2.2.2 = n := Option.some.inj h
      show 1 ≤ n ∧ q.2.2.2.1 + n ≤ 12
      omega
  · rw [if_pos h1] at h; cases h
section
variable {B : Nat → Nat} {len pl e n : Nat} {o : Option Nat × jRS} {td : Bool}
theorem jrPut1_n (h : o.1 = none) : jrPut1 B len pl o = (false, o.2) := by unfold jrPut1; rw [h]
theorem jrPut1_t (h : o.1 = some e) (h6 : o.2.1.2.1 = 6) : jrPut1 B len pl o = jrPut2 B len pl e true (jrHow B len (jrTok B len o.2)) := by unfold jrPut1; rw [h]; exact if_pos h6
theorem jrPut1_f (h : o.1 = some e) (h6 : ¬ o.2.1.2.1 = 6) : jrPut1 B len pl o = jrPut2 B len pl e false (some 1, o.2) := by unfold jrPut1; rw [h]; exact if_neg h6
theorem jrPut2_n (h : o.1 = none) : jrPut2 B len pl e td o = (false, o.2) := by unfold jrPut2; rw [h]
theorem jrPut2_s (h : o.1 = some n) (hs : (jrSemi B len o.2).1 = false) : jrPut2 B len pl e td o = (false, (jrSemi B len o.2).2) := by unfold jrPut2; rw [h]; exact if_pos hs
theorem jrPut2_3 (h : o.1 = some n) (hs : (jrSemi B len o.2).1 = true) (ht : td = false ∧ 12 ≤ (jrSemi B len o.2).2.2.2.2.1) : jrPut2 B len pl e td o = (false, jrFail 3 pl (jrSemi B len o.2).2) := by unfold jrPut2; rw [h]; exact (if_neg (by rw [hs]; decide)).trans (if_pos ht)
theorem jrPut2_t (h : o.1 = some n) (hs : (jrSemi B len o.2).1 = true) (ht : ¬ (td = false ∧ 12 ≤ (jrSemi B len o.2).2.2.2.2.1)) : jrPut2 B len pl e td o = (true, jrApp e n (jrSemi B len o.2).2) := by unfold jrPut2; rw [h]; exact (if_neg (by rw [hs]; decide)).trans (if_neg ht)
end
theorem jRB.put {tf : Nat → Int32} {len : Nat} {q : jRS} (hl : len ≤ 340) (h : jRB q) : jRB (jrPut (jbs tf) len q).2 := by
  have put2 : ∀ (pl e : Nat) (td : Bool) (o : Option Nat × jRS), pl ≤ 340 → jRB o.2 → (∀ n, o.1 = some n → o.2.2.2.2.1 + n ≤ 12 ∨ (td = false ∧ n = 1)) → jRB (jrPut2 (jbs tf) len pl e td o).2 := by
    intro pl e td o hp ho hn
    cases h1 : o.1 with
    | none => rw [jrPut2_n h1]; exact ho
    | some n =>
      cases h2 : (jrSemi (jbs tf) len o.2).1 with
      | false => rw [jrPut2_s h1 h2]; exact ho.semi hl
      | true =>
        by_cases h3 : td = false ∧ 12 ≤ (jrSemi (jbs tf) len o.2).2.2.2.2.1
        · rw [jrPut2_3 h1 h2 h3]; exact (ho.semi hl).fail (by decide) hp
        · rw [jrPut2_t h1 h2 h3]
          refine (ho.semi hl).app ?_
          rw [jrSemi_r] at h3 ⊢
          rcases hn n h1 with h4 | ⟨h4, h5⟩
          · exact h4
          · subst h5
            have : ¬ 12 ≤ o.2.2.2.2.1 := fun z => h3 ⟨h4, z⟩
            omega
  unfold jrPut
  split
  · exact h.f1 (by decide)
  · have he := jRB.elt (tf := tf) hl 3 0 0 _ (h.tok (tf := tf) hl)
    generalize jrElt (jbs tf) len 3 0 0 (jrTok (jbs tf) len q) = o at he
    have hpl : q.1.2.2.1 ≤ 340 := by have := h.1.2.2.1; omega
    cases h1 : o.1 with
    | none => rw [jrPut1_n h1]; exact he
    | some e =>
      by_cases h6 : o.2.1.2.1 = 6
      · rw [jrPut1_t h1 h6]
        exact put2 _ _ _ _ hpl ((he.tok hl).how hl) (fun n hn => Or.inl (jrHow_b hn).2)
      · rw [jrPut1_f h1 h6]
        exact put2 _ _ _ _ hpl he (fun n hn => Or.inr ⟨rfl, (Option.some.inj hn).symm⟩)
theorem jrFail_rows {k pl : Nat} {q : jRS} : (jrFail k pl q).2.1.2 = q.2.1.2 := rfl
theorem jrSemi_rows {B : Nat → Nat} {len : Nat} {q : jRS} : (jrSemi B len q).2.2.1.2 = q.2.1.2 := by unfold jrSemi; split <;> rfl
theorem jrElt_rows {B : Nat → Nat} {len : Nat} : ∀ (d i el : Nat) (q : jRS), (jrElt B len d i el q).2.2.1.2 = q.2.1.2
  | 0, _, _, _ => rfl
  | d + 1, i, el, q => by
    unfold jrElt
    repeat' split
    · rfl
    · rfl
    · rfl
    · exact jrElt_rows d _ _ _
theorem jrHow_rows {B : Nat → Nat} {len : Nat} {q : jRS} : (jrHow B len q).2.2.1.2 = q.2.1.2 := by unfold jrHow; (repeat' split) <;> rfl
theorem jrGrp_rows {B : Nat → Nat} {len : Nat} : ∀ (d i od : Nat) (q : jRS), (jrGrp B len d i od q).2.2.1.2 = q.2.1.2
  | 0, _, _, _ => jrSemi_rows
  | d + 1, i, od, q => by
    unfold jrGrp
    repeat' split
    · exact jrSemi_rows
    · rfl
    · rfl
    · exact jrGrp_rows d _ _ _
theorem jrRow_rows {B : Nat → Nat} {len i : Nat} {q : jRS} : (jrRow B len i q).2.2.1.2 = q.2.1.2 := by
  have put2 : ∀ (pl e : Nat) (td : Bool) (o : Option Nat × jRS), (jrPut2 B len pl e td o).2.2.1.2 = o.2.2.1.2 := by
    intro pl e td o
    cases h1 : o.1 with
    | none => rw [jrPut2_n h1]
    | some n =>
      cases h2 : (jrSemi B len o.2).1 with
      | false => rw [jrPut2_s h1 h2]; exact jrSemi_rows
      | true =>
        by_cases h3 : td = false ∧ 12 ≤ (jrSemi B len o.2).2.2.2.2.1
        · rw [jrPut2_3 h1 h2 h3]; exact jrSemi_rows
        · rw [jrPut2_t h1 h2 h3]
          show (jrApp e n _).2.1.2 = _
          rw [(jrApp_o n _).2.1]; exact jrSemi_rows
  unfold jrRow
  split
  · unfold jrGroup
    split
    · rfl
    · exact jrGrp_rows 3 0 1 _
  · unfold jrPut
    split
    · rfl
    · have he := jrElt_rows (B := B) (len := len) 3 0 0 (jrTok B len q)
      generalize jrElt B len 3 0 0 (jrTok B len q) = o at he
      cases h1 : o.1 with
      | none => rw [jrPut1_n h1]; exact he
      | some e =>
        by_cases h6 : o.2.1.2.1 = 6
        · rw [jrPut1_t h1 h6, put2, jrHow_rows]; exact he
        · rw [jrPut1_f h1 h6, put2]; exact he
theorem jRB.row {tf : Nat → Int32} {len i : Nat} {q : jRS} (hl : len ≤ 340) (h : jRB q) : jRB (jrRow (jbs tf) len i q).2 := by
  unfold jrRow
  split
  · exact h.group hl
  · exact h.put hl
section
variable {B : Nat → Nat} {len i : Nat} {v : jRS}
theorem jrAll_0 (h : 301 ≤ i) : v = jrAll B len (301 - i) i v := by rw [show 301 - i = 0 by omega]; rfl
theorem jrAll_f (h : ¬ v.2.2.1.1 = 0) : v = jrAll B len (301 - i) i v := by
  cases 301 - i with
  | zero => rfl
  | succ d => rw [jrAll, if_pos h]
theorem jrAll_e (h : v.1.2.1 = 0) : v = jrAll B len (301 - i) i v := by
  cases 301 - i with
  | zero => rfl
  | succ d =>
    rw [jrAll]
    by_cases h0 : v.2.2.1.1 = 0
    · rw [if_neg (fun z => z h0), if_pos h]
    · rw [if_pos h0]
theorem jrAll_s (hi : i < 301) (h1 : v.2.2.1.1 = 0) (h2 : ¬ v.1.2.1 = 0) (h : (jrRow B len i v).1 = false) : jrAll B len (301 - i) i v = jrAll B len (301 - (i + 1)) (i + 1) (jrRow B len i v).2 := by
  rw [show 301 - i = (301 - (i + 1)) + 1 by omega, jrAll, if_neg (fun z => z h1), if_neg h2, if_neg (by rw [h]; decide)]
theorem jrAll_t (hi : i < 301) (h1 : v.2.2.1.1 = 0) (h2 : ¬ v.1.2.1 = 0) (h : (jrRow B len i v).1 = true) : jrAll B len (301 - i) i v = jrAll B len (301 - (i + 1)) (i + 1) ((jrRow B len i v).2.1, ((jrRow B len i v).2.2.1.1, (jrRow B len i v).2.2.1.2 + 1), (jrRow B len i v).2.2.2) := by
  rw [show 301 - i = (301 - (i + 1)) + 1 by omega, jrAll, if_neg (fun z => z h1), if_neg h2, if_pos h]
end
