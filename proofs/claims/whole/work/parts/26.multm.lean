/-! free multisets -/
abbrev mST : Type := (Nat → Nat) × List Nat
/-- one row told: counted, and kept if it is longer than any ahead -/
def mstep (L : List Nat) (T : mST) : mST := (va_up T.1 L.length (T.1 L.length + 1), if T.2.length < L.length then L else T.2)
def mgl (F : Nat → mST → mST) : Nat → Nat → mST → mST
  | 0, _, T => T
  | n + 1, g, T => mgl F n (g + 1) (F g T)
/-- all free rows that begin with L and go on with elements from fr on, sums being made -/
def mgr (od : Nat) (mf af : Nat → Nat) : Nat → List Nat → Nat → Nat → mST → mST
  | 0, L, _, _, T => mstep L T
  | d + 1, L, fr, sm, T => mgl (fun g T => if sm.testBit (jop od af g) then T else mgr od mf af d (L ++ [g]) g ((sm ||| 1 <<< g) ||| jmoved od mf sm g od) T) (od - fr) fr (mstep L T)
theorem mgl_0 {F : Nat → mST → mST} {od g : Nat} {T : mST} (h : od ≤ g) : mgl F (od - g) g T = T := by rw [show od - g = 0 by omega]; rfl
theorem mgl_s {F : Nat → mST → mST} {od g : Nat} {T : mST} (h : g < od) : mgl F (od - g) g T = mgl F (od - (g + 1)) (g + 1) (F g T) := by rw [show od - g = (od - (g + 1)) + 1 by omega]; rfl
/-- a row's cells hold a list -/
def mrow (L : List Nat) (f : Nat → Nat) : Prop := ∀ k, k < L.length → f k = L.getD k 0
theorem mrow_app {L : List Nat} {f : Nat → Nat} {g : Nat} (h : mrow L f) : mrow (L ++ [g]) (va_up f L.length g) := by
  intro k hk
  rw [List.length_append, List.length_singleton] at hk
  by_cases z : k = L.length
  · subst z
    rw [up_at, List.getD_eq_getElem?_getD, List.getElem?_append_right (Nat.le_refl _)]
    simp
  · rw [up_ne z, h k (by omega), List.getD_eq_getElem?_getD, List.getD_eq_getElem?_getD, List.getElem?_append_left (by omega)]
theorem mrow_pre {L : List Nat} {f : Nat → Nat} {g : Nat} (h : mrow (L ++ [g]) f) : mrow L f := by
  intro k hk
  have := h k (by rw [List.length_append]; omega)
  rw [this, List.getD_eq_getElem?_getD, List.getD_eq_getElem?_getD, List.getElem?_append_left hk]
theorem mrow_eq {L : List Nat} {f h : Nat → Nat} (hf : mrow L f) (hh : ∀ k, k < L.length → h k = f k) : mrow L h := fun k hk => (hh k hk).trans (hf k hk)
/-- what a state of the counting holds -/
def mOK (T : mST) (C ff : Nat → Nat) (fl : Nat) : Prop := (∀ k, k < 13 → C k = T.1 k) ∧ fl = T.2.length ∧ mrow T.2 ff ∧ fl ≤ 12
