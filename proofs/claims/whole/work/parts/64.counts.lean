/-! sets with the same elements -/
/-- so often is y among the first k places, of those in s -/
def cv (f : Nat → Nat) (s y : Nat) : Nat → Nat
  | 0 => 0
  | k + 1 => cv f s y k + (if s.testBit k = true ∧ f k = y then 1 else 0)
def cG (cd : Nat) (c : Nat → Nat) : Nat → Nat
  | 0 => 0
  | y + 1 => gP cd (cG cd c y) (jmul (god cd) (jmf cd) y (c y))
/-- of s the first places, of each element y so many as c y -/
def tk (f : Nat → Nat) (s : Nat) (c : Nat → Nat) : Nat → Nat
  | 0 => 0
  | k + 1 => tk f s c k ||| (if s.testBit k = true ∧ cv f s (f k) k < c (f k) then 2 ^ k else 0)
section
variable {cd n s : Nat} {f c : Nat → Nat}
theorem cG_lt (h : cd ∈ jcodes) (hg : 0 < god cd) : ∀ k, k ≤ god cd → cG cd c k < god cd
  | 0, _ => hg
  | k + 1, hk => gP_lt h (cG_lt h hg k (by omega)) (jmul_lt h (by omega) _)
theorem cG_up {c' : Nat → Nat} {y : Nat} (h : cd ∈ jcodes) (hy : y < god cd) (h1 : c' y = c y + 1) (h2 : ∀ z, z ≠ y → c' z = c z) : ∀ k, k ≤ god cd → cG cd c' k = if y < k then gP cd (cG cd c k) y else cG cd c k
  | 0, _ => by rw [if_neg (by omega)]; rfl
  | k + 1, hk => by
    have ih := cG_up h hy h1 h2 k (by omega)
    have hA := cG_lt (c := c) h (by omega) k (by omega)
    have hM := jmul_lt h (show k < god cd by omega) (c k)
    show gP cd (cG cd c' k) (jmul (god cd) (jmf cd) k (c' k)) = if y < k + 1 then gP cd (gP cd (cG cd c k) (jmul (god cd) (jmf cd) k (c k))) y else gP cd (cG cd c k) (jmul (god cd) (jmf cd) k (c k))
    by_cases z : y = k
    · subst z
      rw [if_neg (by omega)] at ih
      rw [if_pos (by omega), ih, h1, gP_assoc h hA hM hy]
      rfl
    · rw [h2 k (fun w => z w.symm), ih]
      by_cases w : y < k
      · rw [if_pos w, if_pos (by omega), gP_assoc h hA hy hM, gP_comm h y, ← gP_assoc h hA hM hy]
      · rw [if_neg w, if_neg (by omega)]
theorem cG_0 (h : cd ∈ jcodes) (hg : 0 < god cd) : ∀ k, k ≤ god cd → cG cd (fun _ => 0) k = 0
  | 0, _ => rfl
  | k + 1, hk => by
    show gP cd (cG cd (fun _ => 0) k) 0 = 0
    rw [cG_0 h hg k (by omega), gP_0 h hg]
theorem cG_congr {c' : Nat → Nat} (h : ∀ y, c y = c' y) : cG cd c = cG cd c' := by rw [show c = c' from funext h]
theorem gS_cv (h : cd ∈ jcodes) (hg : 0 < god cd) : ∀ k, (∀ j, j < k → f j < god cd) → gS cd f k s = cG cd (fun y => cv f s y k) (god cd)
  | 0, _ => (cG_0 h hg _ (Nat.le_refl _)).symm
  | k + 1, hf => by
    have ih := gS_cv h hg k (fun j hj => hf j (by omega))
    rw [gS_s]
    by_cases q : s.testBit k = true
    · rw [if_pos q, ih, cG_up (c := fun y => cv f s y k) (c' := fun y => cv f s y (k + 1)) (y := f k) h (hf k (by omega)) ?_ ?_ (god cd) (Nat.le_refl _), if_pos (hf k (by omega))]
      · show cv f s (f k) k + (if s.testBit k = true ∧ f k = f k then 1 else 0) = _
        rw [if_pos ⟨q, rfl⟩]
      · intro z hz
        show cv f s z k + (if s.testBit k = true ∧ f k = z then 1 else 0) = _
        rw [if_neg (fun w => hz w.2.symm)]
        rfl
    · rw [if_neg q, ih]
      refine congrFun (cG_congr fun y => ?_) _
      show _ = cv f s y k + (if s.testBit k = true ∧ f k = y then 1 else 0)
      rw [if_neg (fun w => q w.1)]
      rfl
theorem gS_same {t : Nat} (h : cd ∈ jcodes) (hg : 0 < god cd) (hf : ∀ j, j < n → f j < god cd) (he : ∀ y, cv f s y n = cv f t y n) : gS cd f n s = gS cd f n t := by
  rw [gS_cv h hg n hf, gS_cv h hg n hf, cG_congr he]
theorem tk_tb (j : Nat) : ∀ k, (tk f s c k).testBit j = true ↔ j < k ∧ s.testBit j = true ∧ cv f s (f j) j < c (f j)
  | 0 => by
    show (0 : Nat).testBit j = true ↔ _
    rw [Nat.zero_testBit]
    constructor
    · intro h; cases h
    · intro h; omega
  | k + 1 => by
    unfold tk
    rw [Nat.testBit_or, Bool.or_eq_true, tk_tb j k]
    by_cases z : s.testBit k = true ∧ cv f s (f k) k < c (f k)
    · rw [if_pos z, Nat.testBit_two_pow, decide_eq_true_eq]
      constructor
      · rintro (⟨h1, h2⟩ | h)
        · exact ⟨by omega, h2⟩
        · subst h; exact ⟨by omega, z⟩
      · rintro ⟨h1, h2⟩
        by_cases w : k = j
        · exact Or.inr w
        · exact Or.inl ⟨by omega, h2⟩
    · rw [if_neg z, Nat.zero_testBit]
      constructor
      · rintro (⟨h1, h2⟩ | h)
        · exact ⟨by omega, h2⟩
        · cases h
      · rintro ⟨h1, h2⟩
        refine Or.inl ⟨?_, h2⟩
        by_cases w : j = k
        · subst w; exact absurd h2 z
        · omega
theorem tk_sub (k : Nat) : tk f s c k &&& s = tk f s c k := sub_of fun j hj => ((tk_tb j k).mp hj).2.1
theorem tk_cv {m : Nat} (y : Nat) : ∀ k, k ≤ m → (cv f s y k ≤ c y → cv f (tk f s c m) y k = cv f s y k) ∧ (c y ≤ cv f s y k → cv f (tk f s c m) y k = c y)
  | 0, _ => ⟨fun _ => rfl, fun h => by have : cv f s y 0 = 0 := rfl; show 0 = c y; omega⟩
  | k + 1, hk => by
    obtain ⟨i1, i2⟩ := tk_cv (m := m) y k (by omega)
    have e1 : cv f s y (k + 1) = cv f s y k + (if s.testBit k = true ∧ f k = y then 1 else 0) := rfl
    have e2 : cv f (tk f s c m) y (k + 1) = cv f (tk f s c m) y k + (if (tk f s c m).testBit k = true ∧ f k = y then 1 else 0) := rfl
    by_cases z : s.testBit k = true ∧ f k = y
    · rw [if_pos z] at e1
      by_cases w : cv f s y k < c y
      · rw [if_pos ⟨(tk_tb k m).mpr ⟨by omega, z.1, by rw [z.2]; exact w⟩, z.2⟩] at e2
        have := i1 (by omega)
        constructor <;> intro <;> omega
      · rw [if_neg (fun u => w (by have := ((tk_tb k m).mp u.1).2.2; rw [z.2] at this; exact this))] at e2
        have := i2 (by omega)
        constructor <;> intro <;> omega
    · rw [if_neg z] at e1
      rw [if_neg (fun u => z ⟨((tk_tb k m).mp u.1).2.1, u.2⟩)] at e2
      constructor
      · intro h; have := i1 (by omega); omega
      · intro h; have := i2 (by omega); omega
theorem tk_at (hc : ∀ y, c y ≤ cv f s y n) (y : Nat) : cv f (tk f s c n) y n = c y := (tk_cv y n (Nat.le_refl _)).2 (hc y)
theorem cv_le {t : Nat} (h : t &&& s = t) (y : Nat) : ∀ k, cv f t y k ≤ cv f s y k
  | 0 => Nat.le_refl _
  | k + 1 => by
    have ih := cv_le h y k
    unfold cv
    by_cases q : t.testBit k = true ∧ f k = y
    · rw [if_pos q, if_pos ⟨sub_tb h q.1, q.2⟩]; omega
    · rw [if_neg q]; omega
theorem cv_xs {t : Nat} (h : t &&& s = t) (y : Nat) : ∀ k, cv f (s ^^^ t) y k + cv f t y k = cv f s y k
  | 0 => rfl
  | k + 1 => by
    have ih := cv_xs h y k
    have hx := in_xs (j := k) h
    have hs : t.testBit k = true → s.testBit k = true := fun q => sub_tb h q
    unfold cv
    by_cases w : f k = y
    · cases q : s.testBit k <;> cases r : t.testBit k <;> rw [q, r] at hx hs <;> simp_all <;> omega
    · rw [if_neg (fun u => w u.2), if_neg (fun u => w u.2), if_neg (fun u => w u.2)]; omega
theorem cv_eq0 {t : Nat} (hz : ∀ y, cv f t y n = 0) (ht : t < 2 ^ n) : t = 0 := by
  apply Nat.eq_of_testBit_eq
  intro j
  rw [Nat.zero_testBit]
  cases q : t.testBit j with
  | false => rfl
  | true =>
    have hj := tb_lt ht q
    have key : ∀ k, j < k → 0 < cv f t (f j) k := by
      intro k
      induction k with
      | zero => intro h; omega
      | succ k ih =>
        intro h
        unfold cv
        by_cases w : j = k
        · subst w; rw [if_pos ⟨q, rfl⟩]; omega
        · have := ih (by omega); omega
    have := key n hj
    have := hz (f j)
    omega
theorem cv_sub_eq {t : Nat} (h : t &&& s = t) (hs : s < 2 ^ n) (he : ∀ y, cv f t y n = cv f s y n) : t = s := by
  apply xs_zero
  have hl := sub_le (xs_sub h)
  exact cv_eq0 (f := f) (n := n) (fun y => by have := cv_xs (f := f) h y n; have := he y; omega) (by omega)
/-- as many of each: atoms go over to atoms -/
theorem aT_same {t : Nat} (h : cd ∈ jcodes) (hg : 0 < god cd) (hf : ∀ j, j < n → f j < god cd) (hs : s < 2 ^ n) (ht : t < 2 ^ n) (he : ∀ y, cv f s y n = cv f t y n) (ha : aT cd f n s) : aT cd f n t := by
  obtain ⟨a1, a2, a3⟩ := ha
  refine ⟨fun z => a1 ?_, by rw [← gS_same h hg hf he]; exact a2, fun u u1 u2 u3 => ?_⟩
  · subst z
    refine cv_eq0 (f := f) (n := n) (fun y => ?_) hs
    rw [he y]
    have key : ∀ k, cv f 0 y k = 0 := by
      intro k
      induction k with
      | zero => rfl
      | succ k ih => unfold cv; rw [ih, Nat.zero_testBit, if_neg (fun w => by cases w.1)]
    exact key n
  · obtain ⟨v, hv⟩ : ∃ v, v = tk f s (fun y => cv f u y n) n := ⟨_, rfl⟩
    have hle : ∀ y, cv f u y n ≤ cv f s y n := fun y => by rw [he y]; exact cv_le u2 y n
    have hcv : ∀ y, cv f v y n = cv f u y n := fun y => by rw [hv]; exact tk_at (c := fun y => cv f u y n) hle y
    have hvs : v &&& s = v := by rw [hv]; exact tk_sub n
    have hul := sub_le u2
    have hv0 : v ≠ 0 := fun z => u1 (cv_eq0 (f := f) (n := n) (fun y => by
      rw [← hcv y, z]
      have key : ∀ k, cv f 0 y k = 0 := by
        intro k
        induction k with
        | zero => rfl
        | succ k ih => unfold cv; rw [ih, Nat.zero_testBit, if_neg (fun w => by cases w.1)]
      exact key n) (by omega))
    have := a3 v hv0 hvs (by rw [gS_same h hg hf hcv]; exact u3)
    exact cv_sub_eq u2 ht (fun y => by rw [← hcv y, this, he y])
theorem uT_same (h : cd ∈ jcodes) (hg : 0 < god cd) (hf : ∀ j, j < n → f j < god cd) : ∀ k s t, s < 2 ^ n → t < 2 ^ n → (∀ y, cv f s y n = cv f t y n) → uT cd f n k s → uT cd f n k t
  | 0, s, t, hs, ht, he, hu => by
    have hz : s = 0 := hu
    subst hz
    exact cv_eq0 (f := f) (n := n) (fun y => by
      rw [← he y]
      have key : ∀ k, cv f 0 y k = 0 := by
        intro k
        induction k with
        | zero => rfl
        | succ k ih => unfold cv; rw [ih, Nat.zero_testBit, if_neg (fun w => by cases w.1)]
      exact key n) ht
  | k + 1, s, t, hs, ht, he, ⟨a, a1, a2, a3⟩ => by
    obtain ⟨b, hb⟩ : ∃ b, b = tk f t (fun y => cv f a y n) n := ⟨_, rfl⟩
    have hle : ∀ y, cv f a y n ≤ cv f t y n := fun y => by rw [← he y]; exact cv_le a2 y n
    have hcv : ∀ y, cv f b y n = cv f a y n := fun y => by rw [hb]; exact tk_at (c := fun y => cv f a y n) hle y
    have hbt : b &&& t = b := by rw [hb]; exact tk_sub n
    have hal := sub_le a2
    have hbl := sub_le hbt
    have l1 := sub_le (xs_sub a2)
    have l2 := sub_le (xs_sub hbt)
    refine ⟨b, aT_same h hg hf (s := a) (by omega) (by omega) (fun y => (hcv y).symm) a1, hbt, uT_same h hg hf k (s ^^^ a) (t ^^^ b) (by omega) (by omega) (fun y => ?_) a3⟩
    have c1 := cv_xs (f := f) a2 y n
    have c2 := cv_xs (f := f) hbt y n
    have c3 := he y
    have c4 := hcv y
    omega
end
