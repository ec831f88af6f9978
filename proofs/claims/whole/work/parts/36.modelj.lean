/-! rows that the model wants -/
section

variable {γ : jγ} {l : Launch} {x : jE} {ws : va_W} {lv : List (Option Value)} {st : List Value} {cs sl pc : Nat}
variable {rm : Room} {cc : ByteArray} {own : String} {ret : Option FieldType}

theorem lvx.set2 {ls ls' : Array Slot} {n : Nat} {lv : List (Option Value)} {i : Nat} {v : Value} (h : lvx ls n lv) (hc : ∀ (j : Nat) (u : Value), lv[j]? = some (some u) → j + 1 = i → u.category = 1) (h1 : lv[i + 1]? = some none)
    (h2 : lv_has ls' n ((i, v) :: (lvl 0 lv).filter (fun q => !(q.1 == i) && (!(q.1 == i + 1) && !(q.1 + 1 == i && q.2.category == 2))))) : lvx ls' n (lv.set i (some v)) := by
  refine ⟨by rw [List.length_set]; exact h.1, h2.1, h2.2.1, fun q hq => ?_⟩
  obtain ⟨j, hj, hv⟩ := lvl_out _ 0 q.1 q.2 hq
  have hj : q.1 = j := by omega
  refine h2.2.2 q ?_
  by_cases hij : i = j
  · subst hij
    rw [List.getElem?_set] at hv
    by_cases hlt : i < lv.length
    · simp [hlt] at hv
      obtain ⟨q1, q2⟩ := q
      simp only at hj hv
      subst hj; subst hv
      exact List.mem_cons_self
    · simp [hlt] at hv
  · rw [List.getElem?_set_ne hij] at hv
    refine List.mem_cons_of_mem _ (List.mem_filter.mpr ⟨?_, ?_⟩)
    · have := lvl_in lv 0 j q.2 hv
      rw [Nat.zero_add, ← hj] at this
      exact this
    · have h3 : ¬ q.1 = i := by rw [hj]; exact fun h => hij h.symm
      have h4 : ¬ q.1 = i + 1 := by
        intro z
        rw [← hj, z, h1] at hv
        cases hv
      by_cases h5 : q.1 + 1 = i
      · have h6 := hc j q.2 hv (by omega)
        simp [h3, h4, h6]
      · simp [h3, h4, h5]
theorem J.lstore (g : jG γ x rm cc own ret) {i : Nat} {x9 : Int64} (hd : decode cc pc = .ok (.lstore i, 2)) (hj : ∀ (j : Nat) (u : Value), lv[j]? = some (some u) → j + 1 = i → u.category = 1) (h1 : lv[i + 1]? = some none) (kk : J γ l x ws (lv.set i (some (.long x9))) st cs sl (pc + 2)) : J γ l x ws lv (.long x9 :: st) cs sl pc := fun H locs ls hP hD hS hl0 => lv_lstore g.1 g.2.1 hd hl0.2 (hl0.lt (by rw [h1]; rfl)) rfl (fun ls' h' => kk H locs ls' hP hD hS (hl0.set2 hj h1 h'))
theorem J.lcmp (g : jG γ x rm cc own ret) {x9 y : Int64} (hd : decode cc pc = .ok (.lcmp, 1)) (k : J γ l x ws lv (.int (lg_cmp x9 y) :: st) cs sl (pc + 1)) : J γ l x ws lv (.long y :: .long x9 :: st) cs sl pc := fun H locs ls hP hD hS hl0 => W.lcmp g.1 g.2.1 hd (k H locs ls hP hD hS hl0)
theorem lg_cmp0 {a b : Int64} : lg_cmp a b = 0 ↔ a = b := by
  unfold lg_cmp
  by_cases h1 : b < a
  · simp only [h1, if_true]
    constructor
    · intro h; exact absurd h (by decide)
    · intro h; subst h; exact absurd h1 Int64.lt_irrefl
  · by_cases h2 : a = b
    · simp [h2, Int64.lt_irrefl]
    · simp only [h1, h2, if_false]
      constructor
      · intro h; exact absurd h (by decide)
      · intro h; exact h.elim
theorem J.zast (g : jG γ x rm cc own ret) (q0 : Nat) {a n : Nat} {f : Nat → Int32} {i x9 : Int32} (ha : ws[q0]? = some (a, .inl (γ.2 2, n, .inl f))) (hi : vp_in i n) (hd : decode cc pc = .ok (.bastore, 1)) (kk : J γ l x (ws.set q0 (a, .inl (γ.2 2, n, .inl (upd f i.toNatClampNeg (vp_nar .boolean x9))))) lv st cs sl (pc + 1)) : J γ l x ws lv (.int x9 :: .int i :: .ref a :: st) cs sl pc := fun H locs ls hP hD hS hl0 => va_zast g.1 g.2.1 g.2.2.2.2.2.1 hP hD hS q0 2 ha rfl hi hd (fun H1 locs1 hP1 hD1 hS1 => kk H1 locs1 ls hP1 hD1 hS1 hl0)
theorem j_nzb (p : Bool) : vp_nar .boolean (jB p) = jB p := by unfold vp_nar; rw [j_nz p]
theorem j_upB (f : Nat → Bool) (k : Nat) (p : Bool) : upd (fun j => jB (f j)) k (jB p) = fun j => jB (va_up f k p j) := by
  funext j
  unfold upd va_up
  by_cases h : j = k
  · simp [h]
  · simp [h]
theorem J.zaldB (g : jG γ x rm cc own ret) (q0 : Nat) {a n k : Nat} {f : Nat → Bool} (ha : ws[q0]? = some (a, .inl (γ.2 2, n, .inl (fun j => jB (f j))))) (hk : k < n) (hn : n < 2 ^ 31) (hd : decode cc pc = .ok (.baload, 1)) (kk : J γ l x ws lv (.int (jB (f k)) :: st) cs sl (pc + 1)) : J γ l x ws lv (.int (nI k) :: .ref a :: st) cs sl pc := J.zald g q0 ha (vp_in_nI hk hn) (by rw [nI_clamp (by omega)]) hd kk
theorem J.zastB (g : jG γ x rm cc own ret) (q0 : Nat) {a n k : Nat} {f : Nat → Bool} {p : Bool} (ha : ws[q0]? = some (a, .inl (γ.2 2, n, .inl (fun j => jB (f j))))) (hk : k < n) (hn : n < 2 ^ 31) (hd : decode cc pc = .ok (.bastore, 1)) (kk : J γ l x (ws.set q0 (a, .inl (γ.2 2, n, .inl (fun j => jB (va_up f k p j))))) lv st cs sl (pc + 1)) : J γ l x ws lv (.int (jB p) :: .int (nI k) :: .ref a :: st) cs sl pc := J.zast g q0 ha (vp_in_nI hk hn) hd (by rw [nI_clamp (by omega), j_nzb, j_upB]; exact kk)
theorem jB_tt : nI 1 = jB true := rfl
theorem jB_ff : nI 0 = jB false := rfl
end
/-- what a proposition says, as a bool -/
noncomputable def jD (p : Prop) : Bool := @decide p (Classical.propDecidable p)
theorem jD_t {p : Prop} (h : p) : jD p = true := by unfold jD; exact @decide_eq_true p (Classical.propDecidable p) h
theorem jD_f {p : Prop} (h : ¬ p) : jD p = false := by unfold jD; exact @decide_eq_false p (Classical.propDecidable p) h
theorem jD_is {p : Prop} : jD p = true ↔ p := by
  constructor
  · intro h; unfold jD at h; exact @of_decide_eq_true p (Classical.propDecidable p) h
  · exact jD_t
theorem jD_not {p : Prop} : jD p = false ↔ ¬ p := by
  constructor
  · intro h q; rw [jD_t q] at h; cases h
  · exact jD_f
/-! groups by their code: the laws -/
def gP (cd : Nat) : Nat → Nat → Nat := jpl (god cd) (jmf cd)
theorem gP_in {cd a b : Nat} (h : cd ∈ jcodes) (ha : a < god cd) (hb : b < god cd) : gP cd a b = gpl cd a b := by
  have := (g_small cd h).2.1
  unfold gP jpl
  rw [if_pos ⟨ha, hb⟩, jmf, show (a * 24 + b) / 24 = a by omega, show (a * 24 + b) % 24 = b by omega]
theorem gP_out {cd a b : Nat} (h : ¬ (a < god cd ∧ b < god cd)) : gP cd a b = 0 := by
  unfold gP jpl
  rw [if_neg h]
theorem gP_lt {cd a b : Nat} (h : cd ∈ jcodes) (ha : a < god cd) (hb : b < god cd) : gP cd a b < god cd := by
  rw [gP_in h ha hb]; exact g_closed cd h a ha b hb
theorem gP_comm {cd : Nat} (h : cd ∈ jcodes) (a b : Nat) : gP cd a b = gP cd b a := by
  by_cases z : a < god cd ∧ b < god cd
  · rw [gP_in h z.1 z.2, gP_in h z.2 z.1, g_comm cd h a z.1 b z.2]
  · rw [gP_out z, gP_out (fun q => z ⟨q.2, q.1⟩)]
theorem gP_0 {cd a : Nat} (h : cd ∈ jcodes) (ha : a < god cd) : gP cd a 0 = a := by
  rw [gP_in h ha (by omega), g_zero cd h a ha]
theorem gP_0l {cd a : Nat} (h : cd ∈ jcodes) (ha : a < god cd) : gP cd 0 a = a := by rw [gP_comm h, gP_0 h ha]
/-- u times a, v times b, part by part -/
def gmx (cd u v : Nat) : Nat → Nat → Nat → Nat → Nat → Nat
  | 0, _, _, _, r => r
  | k + 1, a, b, w, r => gmx cd u v k (a / gsz cd k) (b / gsz cd k) (w * gsz cd k) (r + w * ((a % gsz cd k * u + b % gsz cd k * v) % gsz cd k))
theorem gmx_11 {cd : Nat} : ∀ k a b w r, gmx cd 1 1 k a b w r = gpb cd k a b w r
  | 0, _, _, _, _ => rfl
  | k + 1, a, b, w, r => by
    unfold gmx gpb
    rw [Nat.mul_one, Nat.mul_one, gmx_11 k]
theorem g_cases {cd : Nat} (h : cd ∈ jcodes) : cd = 0 ∨ (gpt cd = 1 ∧ 2 ≤ gsz cd 0 ∧ god cd = gsz cd 0) ∨ (gpt cd = 2 ∧ 2 ≤ gsz cd 0 ∧ 2 ≤ gsz cd 1 ∧ god cd = gsz cd 0 * gsz cd 1) ∨ (gpt cd = 3 ∧ 2 ≤ gsz cd 0 ∧ 2 ≤ gsz cd 1 ∧ 2 ≤ gsz cd 2 ∧ god cd = gsz cd 0 * gsz cd 1 * gsz cd 2) := by
  revert h
  revert cd
  decide +kernel
theorem gmx_1 {cd u v a b : Nat} (h : gpt cd = 1) : gmx cd u v (gpt cd) a b 1 0 = (a % gsz cd 0 * u + b % gsz cd 0 * v) % gsz cd 0 := by
  rw [h]; unfold gmx gmx; rw [Nat.zero_add, Nat.one_mul]
theorem gmx_2 {cd u v a b : Nat} (h : gpt cd = 2) : gmx cd u v (gpt cd) a b 1 0 = (a % gsz cd 1 * u + b % gsz cd 1 * v) % gsz cd 1 + gsz cd 1 * ((a / gsz cd 1 % gsz cd 0 * u + b / gsz cd 1 % gsz cd 0 * v) % gsz cd 0) := by
  rw [h]; unfold gmx gmx gmx; rw [Nat.zero_add, Nat.one_mul, Nat.one_mul]
theorem gmx_3 {cd u v a b : Nat} (h : gpt cd = 3) : gmx cd u v (gpt cd) a b 1 0 = (a % gsz cd 2 * u + b % gsz cd 2 * v) % gsz cd 2 + gsz cd 2 * ((a / gsz cd 2 % gsz cd 1 * u + b / gsz cd 2 % gsz cd 1 * v) % gsz cd 1) + gsz cd 2 * gsz cd 1 * ((a / gsz cd 2 / gsz cd 1 % gsz cd 0 * u + b / gsz cd 2 / gsz cd 1 % gsz cd 0 * v) % gsz cd 0) := by
  rw [h]; unfold gmx gmx gmx gmx; rw [Nat.zero_add, Nat.one_mul, Nat.one_mul]
/-- the parts of an element: gc cd k a is its k-th -/
def gc (cd k a : Nat) : Nat := if k = 0 then (if gpt cd = 1 then a else if gpt cd = 2 then a / gsz cd 1 else a / gsz cd 2 / gsz cd 1) % gsz cd 0 else if k = 1 then (if gpt cd = 2 then a else a / gsz cd 2) % gsz cd 1 else a % gsz cd 2
theorem g_dm {a b p r : Nat} (hp : 0 < p) (hr : r < p) : (r + p * a) % p = r ∧ (r + p * a) / p = a := by
  constructor
  · rw [Nat.add_mul_mod_self_left, Nat.mod_eq_of_lt hr]
  · rw [Nat.add_mul_div_left _ _ hp, Nat.div_eq_of_lt hr, Nat.zero_add]
theorem gc_mx {cd u v a b k : Nat} (h : cd ∈ jcodes) (hk : k < gpt cd) : gc cd k (gmx cd u v (gpt cd) a b 1 0) = (gc cd k a * u + gc cd k b * v) % gsz cd k := by
  rcases g_cases h with rfl | ⟨h1, h2, -⟩ | ⟨h1, h2, h3, -⟩ | ⟨h1, h2, h3, h4, -⟩
  · have h9 : gpt 0 = 0 := (by decide +kernel)
    omega
  · obtain rfl : k = 0 := by omega
    rw [gmx_1 h1]
    unfold gc
    rw [if_pos rfl, if_pos h1, if_pos rfl, if_pos h1, if_pos rfl, if_pos h1, Nat.mod_mod]
  · have hA := Nat.mod_lt (a % gsz cd 1 * u + b % gsz cd 1 * v) (show 0 < gsz cd 1 by omega)
    have hB := g_dm (a := (a / gsz cd 1 % gsz cd 0 * u + b / gsz cd 1 % gsz cd 0 * v) % gsz cd 0) (b := 0) (show 0 < gsz cd 1 by omega) hA
    have : k = 0 ∨ k = 1 := by omega
    rcases this with rfl | rfl
    · rw [gmx_2 h1]
      unfold gc
      rw [if_pos rfl, if_neg (by omega), if_pos h1, hB.2, if_pos rfl, if_neg (by omega), if_pos h1, if_pos rfl, if_neg (by omega), if_pos h1, Nat.mod_mod]
    · rw [gmx_2 h1]
      unfold gc
      rw [if_neg (by omega), if_pos rfl, if_pos h1, hB.1, if_neg (by omega), if_pos rfl, if_pos h1, if_neg (by omega), if_pos rfl, if_pos h1]
  · have hA := Nat.mod_lt (a % gsz cd 2 * u + b % gsz cd 2 * v) (show 0 < gsz cd 2 by omega)
    have hA2 := Nat.mod_lt (a / gsz cd 2 % gsz cd 1 * u + b / gsz cd 2 % gsz cd 1 * v) (show 0 < gsz cd 1 by omega)
    have hB := g_dm (a := (a / gsz cd 2 % gsz cd 1 * u + b / gsz cd 2 % gsz cd 1 * v) % gsz cd 1 + gsz cd 1 * ((a / gsz cd 2 / gsz cd 1 % gsz cd 0 * u + b / gsz cd 2 / gsz cd 1 % gsz cd 0 * v) % gsz cd 0)) (b := 0) (show 0 < gsz cd 2 by omega) hA
    have hC := g_dm (a := (a / gsz cd 2 / gsz cd 1 % gsz cd 0 * u + b / gsz cd 2 / gsz cd 1 % gsz cd 0 * v) % gsz cd 0) (b := 0) (show 0 < gsz cd 1 by omega) hA2
    rw [gmx_3 h1, Nat.add_assoc, Nat.mul_assoc, ← Nat.mul_add]
    have : k = 0 ∨ k = 1 ∨ k = 2 := by omega
    rcases this with rfl | rfl | rfl
    · unfold gc
      rw [if_pos rfl, if_neg (by omega), if_neg (by omega), hB.2, hC.2, if_pos rfl, if_neg (by omega), if_neg (by omega), if_pos rfl, if_neg (by omega), if_neg (by omega), Nat.mod_mod]
    · unfold gc
      rw [if_neg (by omega), if_pos rfl, if_neg (by omega), hB.2, hC.1, if_neg (by omega), if_pos rfl, if_neg (by omega), if_neg (by omega), if_pos rfl, if_neg (by omega)]
    · unfold gc
      rw [if_neg (by omega), if_neg (by omega), hB.1, if_neg (by omega), if_neg (by omega), if_neg (by omega), if_neg (by omega)]
theorem gc_lt {cd k a : Nat} (h : cd ∈ jcodes) (hk : k < gpt cd) : gc cd k a < gsz cd k := by
  have h2 := ((g_small cd h).2.2.2.2.1 k hk).1
  have h3 := (g_small cd h).2.2.2.1
  unfold gc
  have : k = 0 ∨ k = 1 ∨ k = 2 := by omega
  rcases this with rfl | rfl | rfl
  · rw [if_pos rfl]; exact Nat.mod_lt _ (by omega)
  · rw [if_neg (by omega), if_pos rfl]; exact Nat.mod_lt _ (by omega)
  · rw [if_neg (by omega), if_neg (by omega)]; exact Nat.mod_lt _ (by omega)
theorem gc_inj : ∀ cd ∈ jcodes, ∀ a, a < god cd → ∀ b, b < god cd → (∀ k, k < gpt cd → gc cd k a = gc cd k b) → a = b := by decide +kernel
theorem gmx_lt {cd u v a b : Nat} (h : cd ∈ jcodes) (h0 : cd ≠ 0) : gmx cd u v (gpt cd) a b 1 0 < god cd := by
  rcases g_cases h with rfl | ⟨h1, h2, h5⟩ | ⟨h1, h2, h3, h5⟩ | ⟨h1, h2, h3, h4, h5⟩
  · exact absurd rfl h0
  · rw [gmx_1 h1, h5]; exact Nat.mod_lt _ (by omega)
  · rw [gmx_2 h1, h5]
    have hA := Nat.mod_lt (a % gsz cd 1 * u + b % gsz cd 1 * v) (show 0 < gsz cd 1 by omega)
    have hB := Nat.mod_lt (a / gsz cd 1 % gsz cd 0 * u + b / gsz cd 1 % gsz cd 0 * v) (show 0 < gsz cd 0 by omega)
    have hC := Nat.mul_le_mul_left (gsz cd 1) (Nat.succ_le_of_lt hB)
    rw [Nat.mul_succ] at hC
    rw [Nat.mul_comm (gsz cd 0)]
    omega
  · rw [gmx_3 h1, h5]
    have hA := Nat.mod_lt (a % gsz cd 2 * u + b % gsz cd 2 * v) (show 0 < gsz cd 2 by omega)
    have hA2 := Nat.mod_lt (a / gsz cd 2 % gsz cd 1 * u + b / gsz cd 2 % gsz cd 1 * v) (show 0 < gsz cd 1 by omega)
    have hB := Nat.mod_lt (a / gsz cd 2 / gsz cd 1 % gsz cd 0 * u + b / gsz cd 2 / gsz cd 1 % gsz cd 0 * v) (show 0 < gsz cd 0 by omega)
    have hC := Nat.mul_le_mul_left (gsz cd 2 * gsz cd 1) (Nat.succ_le_of_lt hB)
    have hC2 := Nat.mul_le_mul_left (gsz cd 2) (Nat.succ_le_of_lt hA2)
    rw [Nat.mul_succ] at hC hC2
    rw [show gsz cd 0 * gsz cd 1 * gsz cd 2 = gsz cd 2 * gsz cd 1 * gsz cd 0 by rw [Nat.mul_comm (gsz cd 0 * gsz cd 1), Nat.mul_comm (gsz cd 0), Nat.mul_assoc]]
    omega
theorem gc_pl {cd a b k : Nat} (h : cd ∈ jcodes) (ha : a < god cd) (hb : b < god cd) (hk : k < gpt cd) : gc cd k (gP cd a b) = (gc cd k a + gc cd k b) % gsz cd k := by
  rw [gP_in h ha hb, gpl, ← gmx_11, gc_mx h hk, Nat.mul_one, Nat.mul_one]
theorem gP_assoc {cd a b c : Nat} (h : cd ∈ jcodes) (ha : a < god cd) (hb : b < god cd) (hc : c < god cd) : gP cd (gP cd a b) c = gP cd a (gP cd b c) := by
  refine gc_inj cd h _ (gP_lt h (gP_lt h ha hb) hc) _ (gP_lt h ha (gP_lt h hb hc)) fun k hk => ?_
  rw [gc_pl h (gP_lt h ha hb) hc hk, gc_pl h ha hb hk, gc_pl h ha (gP_lt h hb hc) hk, gc_pl h hb hc hk, Nat.mod_add_mod, Nat.add_mod_mod, Nat.add_assoc]
/-- the opposite -/
def gN (cd : Nat) : Nat → Nat := jop (god cd) (jaf cd)
theorem gN_in {cd a : Nat} (h : cd ∈ jcodes) (ha : a < god cd) : gN cd a < god cd ∧ gP cd a (gN cd a) = 0 := by
  obtain ⟨b, hb, hz, hu⟩ := g_inv cd h a ha
  have e : gN cd a = b := by
    have hi : gIs cd (gpt cd) (god cd) (gex cd) (jmf cd) (fun a => ((List.range 24).find? (fun b => decide (gpl cd a b = 0) && decide (b < god cd))).getD 0) := by
      have h24 := (g_small cd h).2.1
      refine ⟨h, rfl, rfl, rfl, fun a b ha hb => by rw [jmf, show (a * 24 + b) / 24 = a by omega, show (a * 24 + b) % 24 = b by omega], fun a b ha hb hz => ?_⟩
      obtain ⟨b', hb', hz', hu'⟩ := g_inv cd h a ha
      obtain rfl := hu' b hb hz
      show ((List.range 24).find? (fun b => decide (gpl cd a b = 0) && decide (b < god cd))).getD 0 = b
      cases hf : (List.range 24).find? (fun b => decide (gpl cd a b = 0) && decide (b < god cd)) with
      | none =>
        have := List.find?_eq_none.mp hf b (List.mem_range.mpr (by omega))
        simp [hz, hb] at this
      | some c =>
        have hc := List.find?_some hf
        have hc : gpl cd a c = 0 ∧ c < god cd := by simpa using hc
        exact hu' c hc.2 hc.1
    have e2 := congrFun (jop_cd hi) a
    unfold gN
    rw [← e2]
    unfold jop
    rw [if_pos ha]
    exact hi.2.2.2.2.2 a b ha hb hz
  rw [e, gP_in h ha hb]
  exact ⟨hb, hz⟩
theorem gN_uniq {cd a b : Nat} (h : cd ∈ jcodes) (ha : a < god cd) (hb : b < god cd) (hz : gP cd a b = 0) : b = gN cd a := by
  obtain ⟨c, hc, hz', hu⟩ := g_inv cd h a ha
  have h1 := gN_in h ha
  rw [gP_in h ha hb] at hz
  rw [gP_in h ha h1.1] at h1
  rw [hu b hb hz, hu _ h1.1 h1.2]
theorem gP_can {cd a b : Nat} (h : cd ∈ jcodes) (ha : a < god cd) (hb : b < god cd) : gP cd (gP cd b a) (gN cd a) = b := by
  have h1 := gN_in h ha
  rw [gP_assoc h hb ha h1.1, h1.2, gP_0 h hb]
theorem gP_can2 {cd a b : Nat} (h : cd ∈ jcodes) (ha : a < god cd) (hb : b < god cd) : gP cd (gP cd b (gN cd a)) a = b := by
  have h1 := gN_in h ha
  rw [gP_assoc h hb h1.1 ha, gP_comm h (gN cd a) a, h1.2, gP_0 h hb]
theorem gP_inj {cd a b c : Nat} (h : cd ∈ jcodes) (ha : a < god cd) (hb : b < god cd) (hc : c < god cd) (e : gP cd b a = gP cd c a) : b = c := by
  rw [← gP_can h ha hb, e, gP_can h ha hc]
theorem gN_N {cd a : Nat} (h : cd ∈ jcodes) (ha : a < god cd) : gN cd (gN cd a) = a := by
  have h1 := gN_in h ha
  exact (gN_uniq h h1.1 ha (by rw [gP_comm h]; exact h1.2)).symm
theorem gN_0 {cd : Nat} (h : cd ∈ jcodes) (h0 : 0 < god cd) : gN cd 0 = 0 := (gN_uniq h h0 h0 (gP_0 h h0)).symm
theorem god_pos {cd : Nat} (h : cd ∈ jcodes) (h0 : cd ≠ 0) : 0 < god cd := by
  rcases g_cases h with rfl | ⟨h1, h2, h5⟩ | ⟨h1, h2, h3, h5⟩ | ⟨h1, h2, h3, h4, h5⟩
  · exact absurd rfl h0
  · omega
  · rw [h5]; exact Nat.mul_pos (by omega) (by omega)
  · rw [h5]; exact Nat.mul_pos (Nat.mul_pos (by omega) (by omega)) (by omega)
/-- u times a: by the parts, or one after the other -/
theorem gmx_mul {cd a : Nat} (h : cd ∈ jcodes) (ha : a < god cd) : ∀ u, gmx cd u 0 (gpt cd) a 0 1 0 = jmul (god cd) (jmf cd) a u := by
  have h0 : cd ≠ 0 := fun z => by subst z; have : god 0 = 0 := (by decide +kernel); omega
  intro u
  induction u with
  | zero =>
    refine gc_inj cd h _ (gmx_lt h h0) _ (god_pos h h0) fun k hk => ?_
    rw [gc_mx h hk, Nat.mul_zero, Nat.mul_zero, Nat.zero_mod]
    show 0 = gc cd k 0
    unfold gc
    split
    · split
      · rw [Nat.zero_mod]
      · split
        · rw [Nat.zero_div, Nat.zero_mod]
        · rw [Nat.zero_div, Nat.zero_div, Nat.zero_mod]
    · split
      · split
        · rw [Nat.zero_mod]
        · rw [Nat.zero_div, Nat.zero_mod]
      · rw [Nat.zero_mod]
  | succ u ih =>
    show _ = gP cd (jmul (god cd) (jmf cd) a u) a
    rw [← ih]
    refine gc_inj cd h _ (gmx_lt h h0) _ (gP_lt h (gmx_lt h h0) ha) fun k hk => ?_
    rw [gc_pl h (gmx_lt h h0) ha hk, gc_mx h hk, gc_mx h hk, Nat.mul_zero, Nat.add_zero, Nat.add_zero, Nat.mod_add_mod, Nat.mul_succ, Nat.add_zero]
theorem jmul_lt {cd a : Nat} (h : cd ∈ jcodes) (ha : a < god cd) (u : Nat) : jmul (god cd) (jmf cd) a u < god cd := by
  cases u with
  | zero => show 0 < god cd; omega
  | succ u => exact gP_lt h (by
      have h0 : cd ≠ 0 := fun z => by subst z; have : god 0 = 0 := (by decide +kernel); omega
      rw [← gmx_mul h ha]; exact gmx_lt h h0) ha
