/-! the tapes of both: the same letters -/
theorem jb8_8 (x : Int32) : jb8 x.toInt8.toInt32 = jb8 x := by
  have h : ∀ b : BitVec 32, ((b.signExtend 8).signExtend 32).setWidth 8 = b.setWidth 8 := by
    intro b
    apply BitVec.eq_of_getLsbD_eq
    intro i hi
    rw [BitVec.getLsbD_setWidth, BitVec.getLsbD_setWidth, BitVec.getLsbD_signExtend, BitVec.getLsbD_signExtend, if_pos hi, if_pos (show i < 32 by omega), decide_eq_true hi, decide_eq_true (show i < 32 by omega), Bool.true_and, Bool.true_and]
  have h2 := congrArg BitVec.toNat (h x.toBitVec)
  rw [BitVec.toNat_setWidth, BitVec.toNat_setWidth] at h2
  unfold jb8
  rw [Int8.toBitVec_toInt32, Int32.toBitVec_toInt8]
  exact h2
theorem jb8_by (v : Int32) (j : Nat) : jb8 (jby v j) = mby v j := jb8_8 _
theorem feed4 {f u : Nat → Int32} {n : Nat} {v : Int32} (h : jap4 f n v u) : map4 (jbs f) n v (jbs u) := by
  intro j
  have h1 : jbs u j = jb8 (u j) := rfl
  rw [h1, h j]
  split
  · rfl
  · split
    · exact jb8_by v (j - n)
    · rfl
theorem feeds {f u : Nat → Int32} {n : Nat} {a b c d0 e0 : Int32} (h : jfeed f n a b c d0 e0 u) : mfeed (jbs f) n a b c d0 e0 (jbs u) := by
  refine ⟨fun w => ?_, fun w => by rw [h.2 w]⟩
  obtain ⟨f1, f2, f3, f4, h1, h2, h3, h4, h5⟩ := h.1 w
  exact ⟨jbs f1, jbs f2, jbs f3, jbs f4, feed4 h1, feed4 h2, feed4 h3, feed4 h4, feed4 h5⟩
theorem map4_uq {t u w : Nat → Nat} {n : Nat} {v : Int32} (h1 : map4 t n v u) (h2 : map4 t n v w) : u = w := funext fun j => (h1 j).trans (h2 j).symm
theorem mfeed_uq {t u w : Nat → Nat} {n : Nat} {a b c d0 e0 : Int32} (h1 : mfeed t n a b c d0 e0 u) (h2 : mfeed t n a b c d0 e0 w) : u = w := by
  by_cases z : n + 20 ≤ 340
  · obtain ⟨f1, f2, f3, f4, p1, p2, p3, p4, p5⟩ := h1.1 z
    obtain ⟨g1, g2, g3, g4, q1, q2, q3, q4, q5⟩ := h2.1 z
    have e1 := map4_uq p1 q1; subst e1
    have e2 := map4_uq p2 q2; subst e2
    have e3 := map4_uq p3 q3; subst e3
    have e4 := map4_uq p4 q4; subst e4
    exact map4_uq p5 q5
  · exact (h1.2 z).trans (h2.2 z).symm
/-- fed the same, the tapes stay the same -/
theorem feed_eq {f u : Nat → Int32} {w : Nat → Nat} {n : Nat} {a b c d0 e0 : Int32} (h1 : jfeed f n a b c d0 e0 u) (h2 : mfeed (jbs f) n a b c d0 e0 w) : w = jbs u := mfeed_uq h2 (feeds h1)
