/-! the model's reader: rows -/
abbrev mV : Type := Nat × Nat × Nat × Nat × Int64
/-- the class's reader and the model's state -/
def mR (len : Nat) (q : jRS) (v : mV) (r : Nat → Nat) (ro : Nat) : Prop := mTok len q.1 v.1 v.2.1 v.2.2.1 v.2.2.2.1 v.2.2.2.2 ∧ mIs q.2.1.1 q.2.2.2.1 q.2.2.2.2 r ∧ ro = q.2.1.2
section
variable {t : Nat → Nat} {len ro k : Nat} {q : jRS} {v u : mV} {r : Nat → Nat}
theorem mR.next (h : mR len q v r ro) (h0 : v.2.2.1 ≠ 0) (h1 : v.2.2.1 ≠ 1) (hu : u = nxT t len v.1 v.2.2.2.1 v.2.2.2.2) : mR len (jrTok t len q) u r ro := by
  obtain ⟨⟨-, -, -, -, -, -, -, -, -, h2, h3, -⟩, h4, h5⟩ := h
  subst hu
  exact ⟨mTok_next (h2 h0 h1) h3, h4, h5⟩
theorem mR.to (h : mR len q v r ro) : v.1 ≤ len ∧ v.2.2.1 < 5 ∧ v.2.1 = q.1.2.2.1 ∧ ro = q.2.1.2 := ⟨h.1.2.2.2.2.2.2.2.2.2.2.1, h.1.2.1, h.1.1, h.2.2⟩
theorem mR.num (h : mR len q v r ro) : (q.1.2.1 = 2 ↔ v.2.2.1 = 3) ∧ (v.2.2.1 = 3 → v.2.2.2.1 = q.1.2.2.2) := ⟨h.1.2.2.2.1, h.1.2.2.2.2.1⟩
theorem mR.sem (h : mR len q v r ro) : (q.1.2.1 = 3 ↔ v.2.2.1 = 4) := h.1.2.2.2.2.2.1
theorem mR.wg (h : mR len q v r ro) : (q.1.2.1 = 4 ↔ v.2.2.1 = 2 ∧ v.2.2.2.2 = Int64.ofNat WGn) := h.1.2.2.2.2.2.2.1
theorem mR.wp (h : mR len q v r ro) : (q.1.2.1 = 5 ↔ v.2.2.1 = 2 ∧ v.2.2.2.2 = Int64.ofNat WPn) := h.1.2.2.2.2.2.2.2.1
theorem mR.wt (h : mR len q v r ro) : (q.1.2.1 = 6 ↔ v.2.2.1 = 2 ∧ v.2.2.2.2 = Int64.ofNat WTn) := h.1.2.2.2.2.2.2.2.2.1
theorem mR.st (h : mR len q v r ro) : (q.1.2.1 = 0 ↔ v.2.2.1 = 0) := h.1.2.2.1
theorem mR.ps (h : mR len q v r ro) : (v.2.2.1 ≠ 0 → v.2.2.1 ≠ 1 → q.1.2.2.1 < 300 ∧ q.1.2.2.1 < q.1.1) ∧ q.1.2.2.1 ≤ 300 := ⟨h.1.2.2.2.2.2.2.2.2.2.2.2.1, h.1.2.2.2.2.2.2.2.2.2.2.2.2⟩
theorem mR.is (h : mR len q v r ro) : mIs q.2.1.1 q.2.2.2.1 q.2.2.2.2 r := h.2.1
theorem mR.w2 (h : mR len q v r ro) {W : Nat} (hw : (decide (v.2.2.1 = 2) && decide (v.2.2.2.2 = Int64.ofNat W)) = true) : v.2.2.1 = 2 ∧ v.2.2.2.2 = Int64.ofNat W := by
  rw [Bool.and_eq_true, decide_eq_true_eq, decide_eq_true_eq] at hw
  exact hw
theorem mR.w2n (h : mR len q v r ro) {W : Nat} (hw : (decide (v.2.2.1 = 2) && decide (v.2.2.2.2 = Int64.ofNat W)) = false) : ¬ (v.2.2.1 = 2 ∧ v.2.2.2.2 = Int64.ofNat W) := by
  rintro ⟨h1, h2⟩
  rw [decide_eq_true h1, decide_eq_true h2] at hw
  cases hw
end
/-- what reading a row leaves: go on with a state whose row the class closes by its sign, or the fault -/
abbrev mO : Type := mV × (Nat → Nat) × (Nat × Nat × Int32) × Bool
def mRes (t : Nat → Nat) (len ro ps : Nat) (R : Bool × jRS) (f0 : Nat × Nat × Int32) (u : mO) : Prop :=
  (u.2.2.2 = true → u.2.2.1 = f0 ∧ ∃ q' : jRS, mR len q' u.1 u.2.1 ro ∧ R = jrSemi t len q' ∧ q'.2.1.1 ≠ 0 ∧ ps ≤ q'.1.2.2.1) ∧ (u.2.2.2 = false → R.1 = false ∧ u.2.2.1 = R.2.2.2.1 ∧ u.2.2.1.1 ≠ 0 ∧ u.1.1 ≤ len ∧ u.1.2.2.1 < 5)
theorem mRes_t {t : Nat → Nat} {len ro ps : Nat} {R : Bool × jRS} {f0 : Nat × Nat × Int32} {v : mV} {r : Nat → Nat} {q' : jRS} (h : mR len q' v r ro) (hR : R = jrSemi t len q') (hc : q'.2.1.1 ≠ 0) (hp : ps ≤ q'.1.2.2.1) : mRes t len ro ps R f0 (v, r, f0, true) := ⟨fun _ => ⟨rfl, q', h, hR, hc, hp⟩, fun z => (by cases z)⟩
theorem mRes_f {t : Nat → Nat} {len ro k pl ps : Nat} {R : Bool × jRS} {f0 : Nat × Nat × Int32} {v : mV} {r r' : Nat → Nat} {q : jRS} (h : mR len q v r ro) (hR : R = (false, jrFail k pl q)) {k' pl' : Nat} (hk : k' = k) (hp : pl' = pl) (h0 : k ≠ 0) : mRes t len ro ps R f0 (v, r', (k', pl', nI ro), false) := by
  subst hk; subst hp
  refine ⟨fun z => (by cases z), fun _ => ?_⟩
  rw [hR, h.2.2]
  exact ⟨rfl, rfl, h0, h.to.1, h.to.2.1⟩
theorem jtok_pos {B : Nat → Nat} {len : Nat} {q : Nat × Nat × Nat × Nat} (h1 : q.2.2.1 < q.1) (h2 : q.2.2.1 < min len 300) : q.2.2.1 + 1 ≤ (jtok B len q).2.2.1 := by
  have h3 := (lsk_le (B := B) (min len 300 - q.1) q.1).1
  have h4 : q.2.2.1 + 1 ≤ min (lsk B (min len 300 - q.1) q.1) (min len 300) := Nat.le_min.mpr ⟨by omega, h2⟩
  unfold jtok
  split
  · exact h4
  · split
    · exact h4
    · exact h4
theorem mR.pos {t : Nat → Nat} {len ro : Nat} {q : jRS} {v : mV} {r : Nat → Nat} (h : mR len q v r ro) (h0 : v.2.2.1 ≠ 0) (h1 : v.2.2.1 ≠ 1) : q.1.2.2.1 + 1 ≤ (jrTok t len q).1.2.2.1 := by
  have h2 := h.ps.1 h0 h1
  have h3 := h.1.2.2.2.2.2.2.2.2.2.1 h0 h1
  have h4 := h.to.1
  exact jtok_pos h2.2 (Nat.lt_min.mpr ⟨by omega, h2.1⟩)
/-! a part more -/
theorem g_more0 : (jcodes.all fun cd => (List.range 25).all fun nu => !(decide (2 ≤ nu) && (decide (gpt cd < 3) && decide ((if gpt cd = 0 then 1 else god cd) * nu ≤ 24))) || (decide ((cd ||| nu <<< (5 * gpt cd)) ∈ jcodes) && (decide (gpt (cd ||| nu <<< (5 * gpt cd)) = gpt cd + 1) && (decide (∀ j, j < gpt cd → gsz (cd ||| nu <<< (5 * gpt cd)) j = gsz cd j) && (decide (gsz (cd ||| nu <<< (5 * gpt cd)) (gpt cd) = nu) && decide (god (cd ||| nu <<< (5 * gpt cd)) = (if gpt cd = 0 then 1 else god cd) * nu)))))) = true := by decide +kernel
theorem g_more (cd : Nat) (h : cd ∈ jcodes) (nu : Nat) (hn : nu < 25) (h1 : 2 ≤ nu) (h2 : gpt cd < 3) (h3 : (if gpt cd = 0 then 1 else god cd) * nu ≤ 24) : (cd ||| nu <<< (5 * gpt cd)) ∈ jcodes ∧ gpt (cd ||| nu <<< (5 * gpt cd)) = gpt cd + 1 ∧ (∀ j, j < gpt cd → gsz (cd ||| nu <<< (5 * gpt cd)) j = gsz cd j) ∧ gsz (cd ||| nu <<< (5 * gpt cd)) (gpt cd) = nu ∧ god (cd ||| nu <<< (5 * gpt cd)) = (if gpt cd = 0 then 1 else god cd) * nu := by
  have := List.all_eq_true.mp (List.all_eq_true.mp g_more0 cd h) nu (List.mem_range.mpr hn)
  rw [decide_eq_true h1, decide_eq_true h2, decide_eq_true h3] at this
  simp only [Bool.and_self, Bool.not_true, Bool.false_or, Bool.and_eq_true, decide_eq_true_eq] at this
  exact this
theorem mIs_more {cd nu : Nat} {f w w' : Nat → Nat} (h : mIs cd 0 f w) (h2 : 2 ≤ nu) (h3 : gpt cd < 3) (h24 : (if gpt cd = 0 then 1 else god cd) * nu ≤ 24) (hw : ∀ j, j < 17 → w' j = if j = 0 then gpt cd + 1 else if j = 1 + gpt cd then nu else w j) : mIs (cd ||| nu <<< (5 * gpt cd)) 0 f w' := by
  have hn : nu < 25 := by
    have h1 : 1 ≤ (if gpt cd = 0 then 1 else god cd) := by
      split
      · omega
      · rename_i z
        exact god_pos h.1 (fun q => by subst q; exact z (by decide +kernel))
    have := Nat.le_mul_of_pos_left nu h1
    omega
  obtain ⟨g1, g2, g3, g4, g5⟩ := g_more cd h.1 nu hn h2 h3 h24
  obtain ⟨h1, h2, h3', h4, h5, h6, h7⟩ := h
  refine ⟨g1, ?_, fun i hi => ?_, ?_, h5, fun j hj => absurd hj (Nat.not_lt_zero _), fun j hj => absurd hj (Nat.not_lt_zero _)⟩
  · rw [hw 0 (by omega), if_pos rfl, g2]
  · rw [g2] at hi
    by_cases z : i = gpt cd
    · subst z; rw [hw _ (by omega), if_neg (by omega), if_pos rfl, g4]
    · rw [hw _ (by omega), if_neg (by omega), if_neg (by omega), h3' i (by omega), g3 i (by omega)]
  · rw [hw 4 (by omega), if_neg (by omega), if_neg (by omega), h4]
theorem jrApp_tok {t : Nat → Nat} {len e : Nat} {q : jRS} : ∀ k, jrTok t len (jrApp e k q) = jrApp e k (jrTok t len q)
  | 0 => rfl
  | k + 1 => by
    have ih := jrApp_tok (t := t) (len := len) (e := e) (q := q) k
    show jrTok t len ((jrApp e k q).1, (jrApp e k q).2.1, (jrApp e k q).2.2.1, ((jrApp e k q).2.2.2.1 + 1, va_up (jrApp e k q).2.2.2.2 (jrApp e k q).2.2.2.1 e)) = ((jrApp e k (jrTok t len q)).1, (jrApp e k (jrTok t len q)).2.1, (jrApp e k (jrTok t len q)).2.2.1, ((jrApp e k (jrTok t len q)).2.2.2.1 + 1, va_up (jrApp e k (jrTok t len q)).2.2.2.2 (jrApp e k (jrTok t len q)).2.2.2.1 e))
    rw [← ih]
    rfl
theorem jrApp_1 {e : Nat} {q : jRS} : ∀ k, (jrApp e k q).1 = q.1 ∧ (jrApp e k q).2.1 = q.2.1 ∧ (jrApp e k q).2.2.1 = q.2.2.1 ∧ (jrApp e k q).2.2.2.1 = q.2.2.2.1 + k
  | 0 => ⟨rfl, rfl, rfl, rfl⟩
  | k + 1 => by
    obtain ⟨h1, h2, h3, h4⟩ := jrApp_1 (e := e) (q := q) k
    exact ⟨h1, h2, h3, by show (jrApp e k q).2.2.2.1 + 1 = _; rw [h4]; omega⟩
theorem gpr_le {cd : Nat} : ∀ cd ∈ jcodes, ∀ i, i < 4 → i ≤ gpt cd → gpr cd i ≤ 24 := by decide +kernel
theorem jrElt_e9 {B : Nat → Nat} {len el i : Nat} {q : jRS} (h : q.2.1.1 ∈ jcodes) (hi : i = gpt q.2.1.1) : jrElt B len (3 - i) i el q = (some el, q) := by
  have h3 := (g_small _ h).2.2.2.1
  rcases Nat.lt_or_ge i 3 with z | z
  · rw [show 3 - i = (3 - i - 1) + 1 by omega, jrElt, if_pos (by rw [hi]; exact g_end (by omega))]
  · rw [show 3 - i = 0 by omega]; rfl
theorem jrElt_s9 {B : Nat → Nat} {len el i : Nat} {q : jRS} (h : q.2.1.1 ∈ jcodes) (hi : i < gpt q.2.1.1) : jrElt B len (3 - i) i el q = if ¬ q.1.2.1 = 2 then (none, jrFail 1 q.1.2.2.1 q) else if gsz q.2.1.1 i ≤ q.1.2.2.2 then (none, jrFail 2 q.1.2.2.1 q) else jrElt B len (3 - (i + 1)) (i + 1) (el * gsz q.2.1.1 i + q.1.2.2.2) (jrTok B len q) := by
  have h3 := (g_small _ h).2.2.2.1
  have hz := ((g_small _ h).2.2.2.2.1 i hi).1
  rw [show 3 - i = (3 - (i + 1)) + 1 by omega, jrElt, if_neg (by omega)]
theorem gpr_s {cd i el nu : Nat} (h1 : el < gpr cd i) (h2 : nu < gsz cd i) : el * gsz cd i + nu < gpr cd (i + 1) := by
  have h3 : (el + 1) * gsz cd i ≤ gpr cd i * gsz cd i := Nat.mul_le_mul_right _ (by omega)
  rw [Nat.add_mul, Nat.one_mul] at h3
  show _ < gpr cd i * gsz cd i
  omega
theorem mRes_f2 {t : Nat → Nat} {len ro ps : Nat} {R : Bool × jRS} {f0 f1 : Nat × Nat × Int32} {v : mV} {r r' : Nat → Nat} {q : jRS} (h : mR len q v r ro) (h1 : R.1 = false) (h2 : R.2.2.2.1 = f1) (h0 : f1.1 ≠ 0) : mRes t len ro ps R f0 (v, r', f1, false) :=
  ⟨fun z => (by cases z), fun _ => ⟨h1, h2.symm, h0, h.to.1, h.to.2.1⟩⟩
theorem mR.app {len ro e k : Nat} {q : jRS} {v : mV} {r r' : Nat → Nat} (h : mR len q v r ro) (hi : mIs q.2.1.1 (jrApp e k q).2.2.2.1 (jrApp e k q).2.2.2.2 r') : mR len (jrApp e k q) v r' ro := by
  obtain ⟨h1, h2, h3, h4⟩ := jrApp_1 (e := e) (q := q) k
  refine ⟨by rw [h1]; exact h.1, by rw [h2]; exact hi, by rw [h2]; exact h.2.2⟩
theorem jrSemi_app {t : Nat → Nat} {len e k : Nat} {q : jRS} (h : q.1.2.1 = 3) : (true, jrApp e k (jrSemi t len q).2) = jrSemi t len (jrApp e k q) := by
  rw [jrSemi, if_pos h, jrSemi, if_pos (by rw [(jrApp_1 k).1]; exact h), jrApp_tok]
