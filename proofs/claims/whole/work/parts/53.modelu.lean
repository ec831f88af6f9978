/-! the model's text -/
theorem mRes_row {t : Nat → Nat} {len ro ps i : Nat} {R R' : Bool × jRS} {f0 : Nat × Nat × Int32} {u : mO} (h : mRes t len ro ps R f0 u) (hR : R' = R) : mRes t len ro ps R' f0 u := hR ▸ h
section
variable {t : Nat → Nat} {len i : Nat} {q : jRS}
theorem jrAll_r (hi : i < 301) (h1 : q.2.2.1.1 = 0) (h2 : ¬ q.1.2.1 = 0) (h : (jrRow t len i q).1 = false) (h3 : (jrRow t len i q).2.2.2.1.1 ≠ 0) : jrAll t len (301 - i) i q = (jrRow t len i q).2 := by
  rw [jrAll_s hi h1 h2 h]
  exact (jrAll_f h3).symm
end
/-- what the text's start leaves to the reader -/
def mq0 (a b c : Nat) (f0 : Nat → Nat) : jRS := ((0, a, b, c), (0, 0), (0, 0, -1), (0, f0))
section
variable {B : Nat → Nat} {len : Nat}
theorem jrSemi_f {q : jRS} (h : (jrSemi B len q).1 = true) : (jrSemi B len q).2.2.2.1 = q.2.2.1 := by
  unfold jrSemi at h ⊢
  by_cases z : q.1.2.1 = 3
  · rw [if_pos z]; rfl
  · rw [if_neg z] at h; cases h
theorem jrGrp_f : ∀ k i od (q : jRS), (jrGrp B len k i od q).1 = true → (jrGrp B len k i od q).2.2.2.1 = q.2.2.1
  | 0, _, _, q, h => jrSemi_f h
  | k + 1, i, od, q, h => by
    unfold jrGrp at h ⊢
    by_cases z1 : ¬ i = 0 ∧ ¬ q.1.2.1 = 2
    · rw [if_pos z1] at h ⊢; exact jrSemi_f h
    · rw [if_neg z1] at h ⊢
      by_cases z2 : ¬ q.1.2.1 = 2
      · rw [if_pos z2] at h; cases h
      · rw [if_neg z2] at h ⊢
        by_cases z3 : q.1.2.2.2 < 2 ∨ 24 < q.1.2.2.2 ∨ 24 < od * q.1.2.2.2
        · rw [if_pos z3] at h; cases h
        · rw [if_neg z3] at h ⊢
          exact (jrGrp_f k _ _ _ h).trans rfl
theorem jrElt_f {e : Nat} : ∀ k i el (q : jRS), (jrElt B len k i el q).1 = some e → (jrElt B len k i el q).2.2.2.1 = q.2.2.1
  | 0, _, _, q, _ => rfl
  | k + 1, i, el, q, h => by
    unfold jrElt at h ⊢
    by_cases z1 : gsz q.2.1.1 i = 0
    · rw [if_pos z1]
    · rw [if_neg z1] at h ⊢
      by_cases z2 : ¬ q.1.2.1 = 2
      · rw [if_pos z2] at h; cases h
      · rw [if_neg z2] at h ⊢
        by_cases z3 : gsz q.2.1.1 i ≤ q.1.2.2.2
        · rw [if_pos z3] at h; cases h
        · rw [if_neg z3] at h ⊢
          exact (jrElt_f k _ _ _ h).trans rfl
theorem jrPut2_f {pl e : Nat} {td : Bool} {o : Option Nat × jRS} (h : (jrPut2 B len pl e td o).1 = true) : (jrPut2 B len pl e td o).2.2.2.1 = o.2.2.2.1 := by
  cases h1 : o.1 with
  | none => rw [jrPut2_n h1] at h; cases h
  | some n =>
    cases h2 : (jrSemi B len o.2).1 with
    | false => rw [jrPut2_s h1 h2] at h; cases h
    | true =>
      by_cases z : td = false ∧ 12 ≤ (jrSemi B len o.2).2.2.2.2.1
      · rw [jrPut2_3 h1 h2 z] at h; cases h
      · rw [jrPut2_t h1 h2 z]
        exact ((jrApp_1 n).2.2.1).trans (jrSemi_f h2)
theorem jrHow_f {n : Nat} {q : jRS} (h : (jrHow B len q).1 = some n) : (jrHow B len q).2.2.2.1 = q.2.2.1 := by
  unfold jrHow at h ⊢
  by_cases z1 : ¬ q.1.2.1 = 2
  · rw [if_pos z1] at h; cases h
  · rw [if_neg z1] at h ⊢
    by_cases z2 : q.1.2.2.2 < 1 ∨ 12 < q.2.2.2.1 + q.1.2.2.2
    · rw [if_pos z2] at h; cases h
    · rw [if_neg z2]; rfl
theorem jrRow_f {i : Nat} {q : jRS} (h : (jrRow B len i q).1 = true) : (jrRow B len i q).2.2.2.1 = q.2.2.1 := by
  unfold jrRow at h ⊢
  by_cases z : i = 0
  · rw [if_pos z] at h ⊢
    unfold jrGroup at h ⊢
    by_cases z1 : ¬ q.1.2.1 = 4
    · rw [if_pos z1] at h; cases h
    · rw [if_neg z1] at h ⊢
      exact (jrGrp_f _ _ _ _ h).trans rfl
  · rw [if_neg z] at h ⊢
    unfold jrPut at h ⊢
    by_cases z1 : ¬ q.1.2.1 = 5
    · rw [if_pos z1] at h; cases h
    · rw [if_neg z1] at h ⊢
      cases h1 : (jrElt B len 3 0 0 (jrTok B len q)).1 with
      | none => rw [jrPut1_n h1] at h; cases h
      | some e =>
        have he : (jrElt B len 3 0 0 (jrTok B len q)).2.2.2.1 = q.2.2.1 := (jrElt_f _ _ _ _ h1).trans rfl
        by_cases z6 : (jrElt B len 3 0 0 (jrTok B len q)).2.1.2.1 = 6
        · rw [jrPut1_t h1 z6] at h ⊢
          have h2 := jrPut2_f h
          cases h3 : (jrHow B len (jrTok B len (jrElt B len 3 0 0 (jrTok B len q)).2)).1 with
          | none => rw [jrPut2_n h3] at h; cases h
          | some n => exact h2.trans ((jrHow_f h3).trans he)
        · rw [jrPut1_f h1 z6] at h ⊢
          exact (jrPut2_f h).trans he
end
