/-! the answers of both: signs -/
def sAg (cd : Nat) (C D : Nat → Nat) : Prop := ∀ y, y < god cd → C y = D y
def sT (cd a : Nat) (C : Nat → Nat) : Nat → Nat := jcs (god cd) (jmf cd) (jaf cd) a C
section
variable {cd : Nat} {f : Nat → Nat}
theorem sT_at {a y : Nat} {C : Nat → Nat} (hy : y < god cd) : sT cd a C y = C y + C (gP cd y a) + C (gP cd y (gN cd a)) := by
  unfold sT jcs
  rw [if_pos hy]
  rfl
theorem sAg.trans {C D E : Nat → Nat} (h1 : sAg cd C D) (h2 : sAg cd D E) : sAg cd C E := fun y hy => (h1 y hy).trans (h2 y hy)
theorem sAg.symm {C D : Nat → Nat} (h1 : sAg cd C D) : sAg cd D C := fun y hy => (h1 y hy).symm
theorem sAg.rfl {C : Nat → Nat} : sAg cd C C := fun _ _ => Eq.refl _
theorem sT_congr (h : cd ∈ jcodes) {a : Nat} {C D : Nat → Nat} (ha : a < god cd) (hh : sAg cd C D) : sAg cd (sT cd a C) (sT cd a D) := fun y hy => by
  rw [sT_at hy, sT_at hy, hh y hy, hh _ (gP_lt h hy ha), hh _ (gP_lt h hy (gN_in h ha).1)]
theorem gP_swap (h : cd ∈ jcodes) {y a b : Nat} (hy : y < god cd) (ha : a < god cd) (hb : b < god cd) : gP cd (gP cd y a) b = gP cd (gP cd y b) a := by
  rw [gP_assoc h hy ha hb, gP_comm h a b, ← gP_assoc h hy hb ha]
theorem sT_comm (h : cd ∈ jcodes) {a b : Nat} {C : Nat → Nat} (ha : a < god cd) (hb : b < god cd) : sAg cd (sT cd a (sT cd b C)) (sT cd b (sT cd a C)) := fun y hy => by
  have na := (gN_in h ha).1
  have nb := (gN_in h hb).1
  rw [sT_at hy, sT_at hy, sT_at hy, sT_at (gP_lt h hy ha), sT_at (gP_lt h hy na), sT_at hy, sT_at (gP_lt h hy hb), sT_at (gP_lt h hy nb),
    gP_swap h hy ha hb, gP_swap h hy ha nb, gP_swap h hy na hb, gP_swap h hy na nb]
  omega
def sH (cd : Nat) (f : Nat → Nat) : Nat → (Nat → Nat) → (Nat → Nat)
  | 0, C => C
  | i + 1, C => sH cd f i (sT cd (f i) C)
theorem sH_congr (h : cd ∈ jcodes) : ∀ i (C D : Nat → Nat), (∀ j, j < i → f j < god cd) → sAg cd C D → sAg cd (sH cd f i C) (sH cd f i D)
  | 0, _, _, _, hh => hh
  | i + 1, C, D, hf, hh => sH_congr h i _ _ (fun j hj => hf j (by omega)) (sT_congr h (hf i (by omega)) hh)
theorem sH_comm (h : cd ∈ jcodes) {a : Nat} (ha : a < god cd) : ∀ i (C : Nat → Nat), (∀ j, j < i → f j < god cd) → sAg cd (sT cd a (sH cd f i C)) (sH cd f i (sT cd a C))
  | 0, _, _ => sAg.rfl
  | i + 1, C, hf => (sH_comm h ha i (sT cd (f i) C) (fun j hj => hf j (by omega))).trans (sH_congr h i _ _ (fun j hj => hf j (by omega)) (sT_comm h ha (hf i (by omega))))
def sD : Nat → Nat := fun y => if y = 0 then 1 else 0
theorem jcsub_H (h : cd ∈ jcodes) : ∀ i, (∀ j, j < i → f j < god cd) → sAg cd (jcsub (god cd) (jmf cd) (jaf cd) f i) (sH cd f i sD)
  | 0, _ => sAg.rfl
  | i + 1, hf => by
    have ih := jcsub_H h i (fun j hj => hf j (by omega))
    have hfi := hf i (by omega)
    exact (sT_congr h hfi ih).trans (sH_comm h hfi i sD (fun j hj => hf j (by omega)))
theorem mon_H (h : cd ∈ jcodes) {n : Nat} (hf : ∀ j, j < n → f j < god cd) : ∀ k, k ≤ n → sAg cd (sH cd f (n - k) (mon cd f n k)) (sH cd f n sD)
  | 0, _ => sAg.rfl
  | k + 1, hk => by
    have ih := mon_H h hf k (by omega)
    have hfi := hf (n - (k + 1)) (by omega)
    have e : sAg cd (mon cd f n (k + 1)) (sT cd (f (n - (k + 1))) (mon cd f n k)) := fun y hy => by
      rw [sT_at hy, mon]
      omega
    have h1 := sH_congr h (n - (k + 1)) _ _ (fun j hj => hf j (by omega)) e
    have h2 : sH cd f (n - (k + 1)) (sT cd (f (n - (k + 1))) (mon cd f n k)) = sH cd f (n - k) (mon cd f n k) := by
      rw [show n - k = (n - (k + 1)) + 1 by omega]; rfl
    rw [h2] at h1
    exact h1.trans ih
theorem jcsub_mon (h : cd ∈ jcodes) {n y : Nat} (hf : ∀ j, j < n → f j < god cd) (hy : y < god cd) : jcsub (god cd) (jmf cd) (jaf cd) f n y = mon cd f n n y := by
  have h1 := jcsub_H h n hf y hy
  have h2 := mon_H h hf n (Nat.le_refl _) y hy
  rw [Nat.sub_self] at h2
  exact h1.trans h2.symm
theorem signed_eq (h : cd ∈ jcodes) {n gg : Nat} (hf : ∀ j, j < n → f j < god cd) (hg : gg < god cd) : (if gg = 0 then nI (jcsub (god cd) (jmf cd) (jaf cd) f n gg) - nI 1 else nI (jcsub (god cd) (jmf cd) (jaf cd) f n gg)) = nI (mon cd f n n gg - (if gg = 0 then 1 else 0)) := by
  rw [jcsub_mon h hf hg]
  by_cases z : gg = 0
  · subst z
    rw [if_pos rfl, if_pos rfl, nI_subk (mon_0 n)]
  · rw [if_neg z, if_neg z, Nat.sub_zero]
theorem moved_at (h : cd ∈ jcodes) {S a y : Nat} (ha : a < god cd) (hy : y < god cd) : (jmoved (god cd) (jmf cd) S a (god cd)).testBit y = S.testBit (gP cd y (gN cd a)) := by
  apply Bool.eq_iff_iff.mpr
  rw [jmoved_tb (god cd)]
  constructor
  · rintro ⟨e, h1, h2, h3⟩
    have h3 : gP cd e a = y := h3
    rw [← h3, gP_can h ha h1]; exact h2
  · intro q
    exact ⟨gP cd y (gN cd a), gP_lt h hy (gN_in h ha).1, q, gP_can2 h ha hy⟩
theorem jany_mon (h : cd ∈ jcodes) {n : Nat} (hf : ∀ j, j < n → f j < god cd) : ∀ k, k ≤ n → ∀ y, y < god cd → (jany (god cd) (jmf cd) (jaf cd) f n k).testBit y = decide (0 < mon cd f n k y)
  | 0, _, y, _ => by
    by_cases z : y = 0
    · subst z
      have e0 : mon cd f n 0 0 = 1 := if_pos rfl
      have e1 : decide (0 < mon cd f n 0 0) = true := decide_eq_true (by rw [e0]; omega)
      rw [e1]
      exact Nat.testBit_one_zero
    · have e0 : mon cd f n 0 y = 0 := if_neg z
      have e1 : decide (0 < mon cd f n 0 y) = false := decide_eq_false (by rw [e0]; omega)
      rw [e1]
      show (1 : Nat).testBit y = false
      cases w : (1 : Nat).testBit y with
      | false => rfl
      | true => exact absurd (Nat.testBit_one_eq_true_iff_self_eq_zero.mp w) z
  | k + 1, hk, y, hy => by
    have hfi := hf (n - (k + 1)) (by omega)
    have hn := gN_in h hfi
    have ih := jany_mon h hf k (by omega)
    unfold jany mon
    rw [Nat.testBit_or, Nat.testBit_or, show jop (god cd) (jaf cd) (f (n - (k + 1))) = gN cd (f (n - (k + 1))) from rfl, moved_at h hfi hy, moved_at h hn.1 hy, gN_N h hfi, ih y hy, ih _ (gP_lt h hy hn.1), ih _ (gP_lt h hy hfi), ← Bool.decide_or, ← Bool.decide_or]
    apply decide_eq_decide.mpr
    omega
theorem jsome_mon (h : cd ∈ jcodes) {n : Nat} (hf : ∀ j, j < n → f j < god cd) : ∀ k, k ≤ n → ∀ y, y < god cd → (jsome (god cd) (jmf cd) (jaf cd) f n k).testBit y = msgS cd f n k y
  | 0, _, y, _ => Nat.zero_testBit y
  | k + 1, hk, y, hy => by
    have hfi := hf (n - (k + 1)) (by omega)
    have hn := gN_in h hfi
    have ih := jsome_mon h hf k (by omega)
    have ha := jany_mon h hf k (by omega)
    unfold jsome msgS
    rw [Nat.testBit_or, Nat.testBit_or, show jop (god cd) (jaf cd) (f (n - (k + 1))) = gN cd (f (n - (k + 1))) from rfl, moved_at h hfi hy, moved_at h hn.1 hy, gN_N h hfi, ih y hy, ha _ (gP_lt h hy hn.1), ha _ (gP_lt h hy hfi)]
theorem jfr_mfr (h : cd ∈ jcodes) {n gg : Nat} (hf : ∀ j, j < n → f j < god cd) (hg : gg < god cd) : ∀ i, i ≤ n → (jfr (god cd) (jmf cd) (jaf cd) f n gg i).1 = (mfrS cd f n gg i).1 ∧ (jfr (god cd) (jmf cd) (jaf cd) f n gg i).2.1 = !(mfrS cd f n gg i).2.1 ∧ (jfr (god cd) (jmf cd) (jaf cd) f n gg i).2.2 = (mfrS cd f n gg i).2.2
  | 0, _ => ⟨rfl, rfl, rfl⟩
  | i + 1, hi => by
    obtain ⟨h1, h2, h3⟩ := jfr_mfr h hf hg i (by omega)
    have hfi := hf i (by omega)
    have hn := gN_in h hfi
    have hl := (mfrS_lt (n := n) h hf hg i (by omega)).1
    have hany := jany_mon h hf (n - (i + 1)) (by omega)
    have hsome := jsome_mon h hf (n - (i + 1)) (by omega)
    have hsg : jfs (god cd) (jmf cd) (jaf cd) (fun k => jany (god cd) (jmf cd) (jaf cd) f n (n - k)) (fun k => jsome (god cd) (jmf cd) (jaf cd) f n (n - k)) (f i) i (jfr (god cd) (jmf cd) (jaf cd) f n gg i).1 (jfr (god cd) (jmf cd) (jaf cd) f n gg i).2.1 = (mfrS cd f n gg (i + 1)).2.2 ∧
        jwb (god cd) (jmf cd) (jaf cd) (f i) (mfrS cd f n gg i).1 (mfrS cd f n gg (i + 1)).2.2 = (mfrS cd f n gg (i + 1)).1 ∧ (mfrS cd f n gg (i + 1)).2.1 = ((mfrS cd f n gg i).2.1 || !decide ((mfrS cd f n gg (i + 1)).2.2 = 0)) := by
      rw [h1, h2]
      have hc : (if (!(mfrS cd f n gg i).2.1) = true then jsome (god cd) (jmf cd) (jaf cd) f n (n - (i + 1)) else jany (god cd) (jmf cd) (jaf cd) f n (n - (i + 1))).testBit (mfrS cd f n gg i).1 = (if (mfrS cd f n gg i).2.1 = true then decide (0 < mon cd f n (n - (i + 1)) (mfrS cd f n gg i).1) else msgS cd f n (n - (i + 1)) (mfrS cd f n gg i).1) := by
        cases (mfrS cd f n gg i).2.1 with
        | true => rw [if_neg (by decide), if_pos rfl, hany _ hl]
        | false => rw [if_pos (by decide), if_neg (by decide), hsome _ hl]
      have hw1 : jwb (god cd) (jmf cd) (jaf cd) (f i) (mfrS cd f n gg i).1 1 = gP cd (mfrS cd f n gg i).1 (gN cd (f i)) := by unfold jwb; rw [if_pos rfl]; rfl
      have hw2 : jwb (god cd) (jmf cd) (jaf cd) (f i) (mfrS cd f n gg i).1 2 = gP cd (mfrS cd f n gg i).1 (f i) := by unfold jwb; rw [if_neg (by decide), if_pos rfl]; rfl
      have hw0 : jwb (god cd) (jmf cd) (jaf cd) (f i) (mfrS cd f n gg i).1 0 = (mfrS cd f n gg i).1 := by unfold jwb; rw [if_neg (by decide), if_neg (by decide)]
      unfold jfs
      rw [hc, hw1, hany _ (gP_lt h hl hn.1)]
      cases q : (if (mfrS cd f n gg i).2.1 = true then decide (0 < mon cd f n (n - (i + 1)) (mfrS cd f n gg i).1) else msgS cd f n (n - (i + 1)) (mfrS cd f n gg i).1) with
      | true =>
        rw [if_pos rfl, mfrS_0 q]
        exact ⟨rfl, hw0, by show _ = (_ || !decide ((0 : Nat) = 0)); simp⟩
      | false =>
        rw [if_neg (by decide)]
        by_cases w : 0 < mon cd f n (n - (i + 1)) (gP cd (mfrS cd f n gg i).1 (gN cd (f i)))
        · rw [mfrS_1 q w, decide_eq_true w, if_pos rfl]
          exact ⟨rfl, hw1, by show true = (_ || !decide ((1 : Nat) = 0)); simp⟩
        · rw [mfrS_2 q w, decide_eq_false w, if_neg (by decide)]
          exact ⟨rfl, hw2, by show true = (_ || !decide ((2 : Nat) = 0)); simp⟩
    obtain ⟨s1, s2, s3⟩ := hsg
    have e : jfr (god cd) (jmf cd) (jaf cd) f n gg (i + 1) = (jwb (god cd) (jmf cd) (jaf cd) (f i) (jfr (god cd) (jmf cd) (jaf cd) f n gg i).1 (mfrS cd f n gg (i + 1)).2.2, (jfr (god cd) (jmf cd) (jaf cd) f n gg i).2.1 && decide ((mfrS cd f n gg (i + 1)).2.2 = 0), (mfrS cd f n gg (i + 1)).2.2) := by
      rw [← s1]; rfl
    rw [e, h1, h2]
    refine ⟨s2, ?_, rfl⟩
    rw [s3]
    show (!(mfrS cd f n gg i).2.1 && decide ((mfrS cd f n gg (i + 1)).2.2 = 0)) = !((mfrS cd f n gg i).2.1 || !decide ((mfrS cd f n gg (i + 1)).2.2 = 0))
    cases (mfrS cd f n gg i).2.1 <;> cases decide ((mfrS cd f n gg (i + 1)).2.2 = 0) <;> rfl
theorem sign_eq (h : cd ∈ jcodes) {n gg p : Nat} (hf : ∀ j, j < n → f j < god cd) (hg : gg < god cd) (hp : p < n) : (if (jsome (god cd) (jmf cd) (jaf cd) f n n).testBit gg then jsgn (jfr (god cd) (jmf cd) (jaf cd) f n gg) (p + 1) else -1) = (if msgS cd f n n gg = true then nI (mfrS cd f n gg (p + 1)).2.2 else -1) := by
  rw [jsome_mon h hf n (Nat.le_refl _) gg hg]
  show (if msgS cd f n n gg = true then nI (jfr (god cd) (jmf cd) (jaf cd) f n gg (p + 1)).2.2 else -1) = _
  rw [(jfr_mfr h hf hg (p + 1) (by omega)).2.2]
end
