/-! acts of the model -/
theorem mIs_c {cd n : Nat} {f w w' : Nat → Nat} (h : mIs cd n f w) (hh : ∀ j, j < 17 → w' j = w j) : mIs cd n f w' := by
  have hg := h.g
  obtain ⟨h1, h2, h3, h4, h5, h6, h7⟩ := h
  refine ⟨h1, (hh 0 (by omega)).trans h2, fun i hi => (hh _ (by omega)).trans (h3 i hi), (hh 4 (by omega)).trans h4, h5, fun j hj => (hh _ (by omega)).trans (h6 j hj), h7⟩
theorem mIs_f {cd n : Nat} {f f' w : Nat → Nat} (h : mIs cd n f w) (hh : ∀ j, j < n → f' j = f j) : mIs cd n f' w := by
  obtain ⟨h1, h2, h3, h4, h5, h6, h7⟩ := h
  exact ⟨h1, h2, h3, h4, h5, fun j hj => (h6 j hj).trans (hh j hj).symm, fun j hj => by rw [hh j hj]; exact h7 j hj⟩
theorem mIs_come {cd n g : Nat} {f w w' : Nat → Nat} (h : mIs cd n f w) (hn : n < 12) (hg : g < god cd) (hw : ∀ j, j < 17 → w' j = if j = 4 then n + 1 else if j = 5 + n then g else w j) : mIs cd (n + 1) (va_up f n g) w' := by
  have hgg := h.g
  obtain ⟨h1, h2, h3, h4, h5, h6, h7⟩ := h
  refine ⟨h1, ?_, fun i hi => ?_, ?_, by omega, fun j hj => ?_, fun j hj => ?_⟩
  · rw [hw 0 (by omega), if_neg (by omega), if_neg (by omega), h2]
  · rw [hw _ (by omega), if_neg (by omega), if_neg (by omega), h3 i hi]
  · rw [hw 4 (by omega), if_pos rfl]
  · rw [hw _ (by omega), if_neg (by omega)]
    by_cases z : j = n
    · subst z; rw [if_pos rfl, up_at]
    · rw [if_neg (by omega), up_ne z, h6 j (by omega)]
  · by_cases z : j = n
    · subst z; rw [up_at]; exact hg
    · rw [up_ne z]; exact h7 j (by omega)
theorem mIs_go {cd n p : Nat} {f w w' : Nat → Nat} (h : mIs cd n f w) (hp : p < n) (hw : ∀ j, j < 17 → j < 5 + (n - 1) → w' j = if j = 4 then n - 1 else if 5 + p ≤ j then w (j + 1) else w j) : mIs cd (n - 1) (fun j => if p ≤ j ∧ j < n - 1 then f (j + 1) else f j) w' := by
  have hgg := h.g
  obtain ⟨h1, h2, h3, h4, h5, h6, h7⟩ := h
  refine ⟨h1, ?_, fun i hi => ?_, ?_, by omega, fun j hj => ?_, fun j hj => ?_⟩
  · rw [hw 0 (by omega) (by omega), if_neg (by omega), if_neg (by omega), h2]
  · rw [hw _ (by omega) (by omega), if_neg (by omega), if_neg (by omega), h3 i hi]
  · rw [hw 4 (by omega) (by omega), if_pos rfl]
  · rw [hw _ (by omega) (by omega), if_neg (by omega)]
    show _ = if p ≤ j ∧ j < n - 1 then f (j + 1) else f j
    by_cases z : p ≤ j
    · rw [if_pos (by omega), if_pos (by omega), show 5 + j + 1 = 5 + (j + 1) by omega, h6 (j + 1) (by omega)]
    · rw [if_neg (by omega), if_neg (by omega), h6 j (by omega)]
  · show (if p ≤ j ∧ j < n - 1 then f (j + 1) else f j) < god cd
    split
    · exact h7 _ (by omega)
    · exact h7 _ (by omega)
theorem mIs_row {cd n : Nat} {f f' w w' : Nat → Nat} (h : mIs cd n f w) (hf : ∀ j, j < n → f' j < god cd) (hw : ∀ j, j < 17 → j < 5 + n → w' j = if 5 ≤ j then f' (j - 5) else w j) : mIs cd n f' w' := by
  have hgg := h.g
  obtain ⟨h1, h2, h3, h4, h5, h6, h7⟩ := h
  refine ⟨h1, ?_, fun i hi => ?_, ?_, h5, fun j hj => ?_, hf⟩
  · rw [hw 0 (by omega) (by omega), if_neg (by omega), h2]
  · rw [hw _ (by omega) (by omega), if_neg (by omega), h3 i hi]
  · rw [hw 4 (by omega) (by omega), if_neg (by omega), h4]
  · rw [hw _ (by omega) (by omega), if_pos (by omega), show 5 + j - 5 = j by omega]
/-- the row w put behind the m rows that are kept (8 at most) -/
def msh (m : Nat) : Nat := if m = 8 then 1 else 0
def msnp (S w : Nat → Nat) (m : Nat) (u : Nat → Nat) : Prop := ∀ i j, j < 17 → i ≤ m - msh m → u (17 * i + j) = if i = m - msh m then w j else S (17 * (i + msh m) + j)
theorem msnp_c {S w w' u : Nat → Nat} {m : Nat} (h : msnp S w m u) (hh : ∀ j, j < 17 → w j = w' j) : msnp S w' m u := fun i j hj hi => by
  rw [h i j hj hi]
  split
  · exact hh j hj
  · rfl
theorem jins_b {n g B : Nat} (hg : g < B) : ∀ (p : Nat) (h : Nat → Nat), p < n → (∀ j, j < n → h j < B) → ∀ j, j < n → jins g p h j < B
  | 0, h, hp, hh, j, hj => by
    unfold jins va_up
    split
    · exact hg
    · exact hh j hj
  | p + 1, h, hp, hh, j, hj => by
    unfold jins
    split
    · refine jins_b hg p _ (by omega) (fun i hi => ?_) j hj
      unfold va_up
      split
      · exact hh p (by omega)
      · exact hh i hi
    · unfold va_up
      split
      · exact hg
      · exact hh j hj
theorem jsrt_b {f : Nat → Nat} {n B : Nat} (hf : ∀ j, j < n → f j < B) : ∀ i, i < n → ∀ j, j < n → jsrt f i j < B
  | 0, _, j, hj => hf j hj
  | i + 1, hi, j, hj => by
    unfold jsrt
    exact jins_b (jsrt_b hf i (by omega) (i + 1) hi) (i + 1) _ hi (jsrt_b hf i (by omega)) j hj
theorem mjcm {ex n k : Nat} (hn : 0 < n) (hk : 1 ≤ k ∧ k ≤ 25) (he : 1 ≤ ex ∧ ex ≤ 24) : junit ex k = decide (Nat.gcd k ex = 1) := mgcd_unit k (by omega) ex (by omega) hk.1 he.1
theorem mIn_24 {u : Int32} : mIn u (nI 1) (nI 24) = decide (1 ≤ u.toInt ∧ u.toInt ≤ 24) := by
  unfold mIn
  rw [nI_toInt (by omega), nI_toInt (by omega)]
  rfl
theorem mIn_k {u : Int32} (h : mIn u (nI 1) (nI 24) = true) : ∃ k : Nat, 1 ≤ k ∧ k ≤ 24 ∧ u = nI k := by
  rw [mIn_24] at h
  have h := of_decide_eq_true h
  have h0 : ¬ u < 0 := by rw [Int32.lt_iff_toInt_lt, Int32.toInt_zero]; omega
  obtain ⟨k, hk, rfl⟩ := nI_of h0
  rw [nI_toInt hk] at h
  exact ⟨k, by omega, by omega, rfl⟩
theorem jcm_m {ex n : Nat} {u : Int32} (h : mIn u (nI 1) (nI 24) = false) : jcm ex n u = false := by
  rw [mIn_24] at h
  unfold jcm
  rw [h]
  simp
/-- how many places the row tells -/
def mPl (n : Nat) (w : Nat → Nat) : Prop := w 4 = n ∧ n ≤ 12
