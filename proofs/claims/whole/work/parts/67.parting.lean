/-! a row parted: the answers of both -/
section
variable {cd n : Nat} {f r : Nat → Nat}
theorem gS_eqf (h : ∀ k, k < n → r k = f k) (s : Nat) : gS cd r n s = gS cd f n s := by
  induction n with
  | zero => rfl
  | succ n ih =>
    rw [gS_s, gS_s, ih (fun k hk => h k (by omega)), h n (by omega)]
theorem aT_eqf (h : ∀ k, k < n → r k = f k) (s : Nat) : aT cd r n s ↔ aT cd f n s := by
  unfold aT
  simp only [gS_eqf h]
theorem pT_eqf (h : ∀ k, k < n → r k = f k) : ∀ k s, pT cd r n k s ↔ pT cd f n k s
  | 0, _ => Iff.rfl
  | k + 1, s => by
    unfold pT
    simp only [aT_eqf h, pT_eqf h k]
theorem mMx_eqf (h : ∀ k, k < n → r k = f k) (s : Nat) : mMx cd r n s = mMx cd f n s := by
  unfold mMx
  rw [show (fun k => pT cd r n k s) = (fun k => pT cd f n k s) from funext fun k => propext (pT_eqf h k s)]
theorem mMn_eqf (h : ∀ k, k < n → r k = f k) (s : Nat) : mMn cd r n s = mMn cd f n s := by
  unfold mMn
  rw [show (fun k => pT cd r n k s) = (fun k => pT cd f n k s) from funext fun k => propext (pT_eqf h k s)]
theorem cI_eqf (h : ∀ k, k < n → r k = f k) (s : Nat) : cI cd r n s = cI cd f n s := by
  unfold cI
  rw [show (fun t => jD (cS cd r n s t)) = (fun t => jD (cS cd f n s t)) from funext fun t => by
    rw [show cS cd r n s t = cS cd f n s t from propext (by unfold cS; simp only [aT_eqf h, mMx_eqf h])]]
theorem cL_eqf (h : ∀ k, k < n → r k = f k) : ∀ k, cL cd r n k = cL cd f n k
  | 0 => rfl
  | k + 1 => by unfold cL; rw [cL_eqf h k, cI_eqf h]
theorem cA_eqf (h : ∀ k, k < n → r k = f k) : ∀ k, cA cd r n k = cA cd f n k
  | 0 => rfl
  | k + 1 => by show cI cd r n (cL cd r n k) = cI cd f n (cL cd f n k); rw [cL_eqf h k, cI_eqf h]
/-- what the class's tables say, in the model's words -/
theorem parting_eq {m0 m1 m2 : Nat → Nat} (hn : n ≤ 12) (hg : 0 < god cd) (hf : ∀ j, j < n → f j < god cd) (hr : ∀ k, k < n → r k = f k) (hB : jPB (2 ^ n - 1) n m0 m1 m2) (hV : jPV cd n r (2 ^ n - 1) m0 m1 m2) (hz : gS cd f n (2 ^ n - 1) = 0) :
    m2 0 = mMn cd f n (2 ^ n - 1) ∧ m1 (2 ^ n - 1) = mMx cd f n (2 ^ n - 1) ∧ ∀ k, k < mMx cd f n (2 ^ n - 1) → jam m0 m1 (2 ^ n - 1) k = nI (cA cd f n (k + 1)) := by
  obtain ⟨hc, -, v3, v4, T, v5⟩ := hV
  have hrf : ∀ j, j < n → r j < god cd := fun j hj => by rw [hr j hj]; exact hf j hj
  have hp := Nat.two_pow_pos n
  have hzr : gS cd r n (2 ^ n - 1) = 0 := by rw [gS_eqf hr]; exact hz
  have b1 := hB.2.2.1.2
  refine ⟨?_, ?_, fun k hk => ?_⟩
  · rw [v5, taken_eq hc hn hrf hg v3 b1 v4 hzr, mMn_eqf hr]
  · rw [most_eq hc hn hrf hg v3 b1 v4 (by omega) hzr, mMx_eqf hr]
  · have := jam_cA hc hn hrf hg v3 b1 v4 hzr k 0 (-1) (by rw [mMx_eqf hr]; omega)
    rw [Nat.zero_add, cA_eqf hr] at this
    exact this
end
