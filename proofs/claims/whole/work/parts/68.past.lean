/-! the past: the class's ring and the model's rows -/
def pSl (nx pl i : Nat) : Nat := (nx + 8 - pl + i) % 8
def pR (cd nx pl : Nat) (ln : Nat → Nat) (rf : Nat → Nat → Nat) (SS : Nat → Nat) : Prop := ∀ i, i < pl → mIs cd (ln (pSl nx pl i)) (rf (pSl nx pl i)) (fun j => SS (17 * i + j))
theorem mIs_same {cd n : Nat} {f r w v : Nat → Nat} (h : mIs cd n f w) (hf : ∀ j, j < n → r j = f j) (hw : ∀ j, j < 17 → v j = w j) : mIs cd n r v := by
  have hs := g_small cd h.1
  obtain ⟨h1, h2, h3, h4, h5, h6, h7⟩ := h
  refine ⟨h1, by rw [hw 0 (by omega), h2], fun i hi => by rw [hw _ (by omega), h3 i hi], by rw [hw 4 (by omega), h4], h5, fun j hj => by rw [hw _ (by omega), h6 j hj, hf j hj], fun j hj => by rw [hf j hj]; exact h7 j hj⟩
theorem pR_push {cd nx pl n : Nat} {ln : Nat → Nat} {rf : Nat → Nat → Nat} {SS f z w u : Nat → Nat} (hx : nx < 8) (hp : pl ≤ 8) (h : pR cd nx pl ln rf SS) (hw : mIs cd n f w) (hz : ∀ j, j < n → z j = f j) (hu : msnp SS w pl u) : pR cd (if nx + 1 < 8 then nx + 1 else 0) (if 8 < pl + 1 then 8 else pl + 1) (va_up ln nx n) (va_up rf nx z) u := by
  intro i hi
  obtain ⟨nx', hn⟩ : ∃ q, q = if nx + 1 < 8 then nx + 1 else 0 := ⟨_, rfl⟩
  rw [← hn]
  have hn2 : (nx + 1 < 8 ∧ nx' = nx + 1) ∨ (nx = 7 ∧ nx' = 0) := by
    by_cases q : nx + 1 < 8
    · rw [if_pos q] at hn; exact Or.inl ⟨q, hn⟩
    · rw [if_neg q] at hn; exact Or.inr ⟨by omega, hn⟩
  by_cases z8 : pl = 8
  · subst z8
    rw [if_pos (by omega)] at hi ⊢
    by_cases z7 : i = 7
    · have e : pSl nx' 8 i = nx := by unfold pSl; omega
      rw [e, uq_at, uq_at]
      refine mIs_same hw hz fun j hj => ?_
      rw [hu i j hj (by unfold msh; rw [if_pos rfl]; omega), if_pos (by unfold msh; rw [if_pos rfl]; omega)]
    · have e : pSl nx' 8 i = pSl nx 8 (i + 1) := by unfold pSl; omega
      have e2 : pSl nx 8 (i + 1) ≠ nx := by unfold pSl; omega
      rw [e, uq_ne e2, uq_ne e2]
      refine mIs_same (h (i + 1) (by omega)) (fun _ _ => rfl) fun j hj => ?_
      rw [hu i j hj (by unfold msh; rw [if_pos rfl]; omega), if_neg (by unfold msh; rw [if_pos rfl]; omega)]
      unfold msh
      rw [if_pos rfl]
  · rw [if_neg (by omega)] at hi ⊢
    have hm : msh pl = 0 := if_neg z8
    by_cases z7 : i = pl
    · have e : pSl nx' (pl + 1) i = nx := by unfold pSl; omega
      rw [e, uq_at, uq_at]
      refine mIs_same hw hz fun j hj => ?_
      rw [hu i j hj (by omega), if_pos (by omega)]
    · have e : pSl nx' (pl + 1) i = pSl nx pl i := by unfold pSl; omega
      have e2 : pSl nx pl i ≠ nx := by unfold pSl; omega
      rw [e, uq_ne e2, uq_ne e2]
      refine mIs_same (h i (by omega)) (fun _ _ => rfl) fun j hj => ?_
      rw [hu i j hj (by omega), if_neg (by omega), hm, Nat.add_zero]
theorem pR_pop {cd nx pl : Nat} {ln : Nat → Nat} {rf : Nat → Nat → Nat} {SS : Nat → Nat} (hx : nx < 8) (hp : 0 < pl) (hp2 : pl ≤ 8) (h : pR cd nx pl ln rf SS) : pR cd (if 0 < nx then nx - 1 else 7) (pl - 1) ln rf SS ∧ mIs cd (ln (if 0 < nx then nx - 1 else 7)) (rf (if 0 < nx then nx - 1 else 7)) (fun j => SS (17 * (pl - 1) + j)) := by
  obtain ⟨nx', hn⟩ : ∃ q, q = if 0 < nx then nx - 1 else 7 := ⟨_, rfl⟩
  rw [← hn]
  have hn2 : (0 < nx ∧ nx' = nx - 1) ∨ (nx = 0 ∧ nx' = 7) := by
    by_cases q : 0 < nx
    · rw [if_pos q] at hn; exact Or.inl ⟨q, hn⟩
    · rw [if_neg q] at hn; exact Or.inr ⟨by omega, hn⟩
  constructor
  · intro i hi
    have e : pSl nx' (pl - 1) i = pSl nx pl i := by unfold pSl; omega
    rw [e]
    exact h i (by omega)
  · have e : pSl nx pl (pl - 1) = nx' := by unfold pSl; omega
    have := h (pl - 1) (by omega)
    rw [e] at this
    exact this
