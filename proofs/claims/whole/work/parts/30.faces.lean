/-! answers of the class's face -/
def jadd (od : Nat) (mf : Nat → Nat) (a b : Int32) : Int32 := if jhas a od && jhas b od then nI (jpl od mf a.toNatClampNeg b.toNatClampNeg) else -1
theorem jadd_t {od : Nat} {mf : Nat → Nat} {i j : Nat} (ho : od ≤ 24) (hi : i < od) (hj : j < od) : jadd od mf (nI i) (nI j) = nI (jpl od mf i j) := by
  unfold jadd
  rw [jhas_n od (by omega), jhas_n od (by omega), decide_eq_true hi, decide_eq_true hj, nI_clamp (by omega), nI_clamp (by omega)]
  rfl
theorem jadd_f1 {od : Nat} {mf : Nat → Nat} {a b : Int32} (h : jhas a od = false) : jadd od mf a b = -1 := by simp [jadd, h]
theorem jadd_f2 {od : Nat} {mf : Nat → Nat} {a b : Int32} (h : jhas b od = false) : jadd od mf a b = -1 := by simp [jadd, h]
/-- the sum of all places -/
def jsa (od : Nat) (mf f : Nat → Nat) (n : Nat) : Int32 := if n = 0 then -1 else nI (jsum od mf f (2 ^ n - 1) n)
def jpart (cd pt : Nat) (i : Int32) : Int32 := if jhas i pt then nI (gsz cd i.toNatClampNeg) else -1
theorem jpart_t {cd pt k : Nat} (h : k < pt) (hp : pt ≤ 3) : jpart cd pt (nI k) = nI (gsz cd k) := by
  unfold jpart
  rw [jhas_n pt (by omega), decide_eq_true h, nI_clamp (by omega)]; rfl
theorem jpart_f {cd pt : Nat} {i : Int32} (h : jhas i pt = false) : jpart cd pt i = -1 := by simp [jpart, h]
theorem jhas_f1 {i : Int32} {n : Nat} (h : i < 0) : jhas i n = false := decide_eq_false (fun z => by have := j_lt0 h; omega)
theorem jhas_f2 {i : Int32} {n : Nat} (hn : n < 2 ^ 31) (h : nI n ≤ i) : jhas i n = false := decide_eq_false (fun z => by rw [Int32.le_iff_toInt_le, nI_toInt hn] at h; omega)
theorem jhas_t2 {i : Int32} {n : Nat} (hn : n < 2 ^ 31) (h0 : ¬ i < 0) (h : ¬ nI n ≤ i) : ∃ k : Nat, k < n ∧ i = nI k := by
  refine jhas_t (decide_eq_true ⟨j_nlt0 h0, ?_⟩)
  rw [Int32.le_iff_toInt_le, nI_toInt hn] at h; omega
/-- may a row of n places be multiplied by u? -/
def jcm (ex n : Nat) (u : Int32) : Bool := decide (0 < n) && (decide (1 ≤ u.toInt ∧ u.toInt ≤ 24) && junit ex u.toNatClampNeg)
theorem jcm_0 {ex n : Nat} {u : Int32} (h : n = 0) : jcm ex n u = false := by simp [jcm, h]
theorem jcm_1 {ex n : Nat} {u : Int32} (h : u < nI 1) : jcm ex n u = false := by
  rw [Int32.lt_iff_toInt_lt, nI_toInt (by omega)] at h
  have : decide (1 ≤ u.toInt ∧ u.toInt ≤ 24) = false := decide_eq_false (by omega)
  simp [jcm, this]
theorem jcm_2 {ex n : Nat} {u : Int32} (h : nI 24 < u) : jcm ex n u = false := by
  rw [Int32.lt_iff_toInt_lt, nI_toInt (by omega)] at h
  have : decide (1 ≤ u.toInt ∧ u.toInt ≤ 24) = false := decide_eq_false (by omega)
  simp [jcm, this]
theorem jcm_k {u : Int32} (h : ¬ u < nI 1) (h2 : ¬ nI 24 < u) : ∃ k : Nat, 1 ≤ k ∧ k ≤ 24 ∧ u = nI k := by
  rw [Int32.lt_iff_toInt_lt, nI_toInt (by omega)] at h h2
  have h0 : ¬ u < 0 := by rw [Int32.lt_iff_toInt_lt, Int32.toInt_zero]; omega
  obtain ⟨k, hk, rfl⟩ := nI_of h0
  rw [nI_toInt hk] at h h2
  exact ⟨k, by omega, by omega, rfl⟩
theorem jcm_n {ex n k : Nat} (h0 : 0 < n) (h1 : 1 ≤ k) (h2 : k ≤ 24) : jcm ex n (nI k) = junit ex k := by
  unfold jcm
  rw [decide_eq_true h0, nI_toInt (by omega), nI_clamp (by omega), decide_eq_true (by omega)]
  simp
def jap4 (f : Nat → Int32) (n : Nat) (v : Int32) (u : Nat → Int32) : Prop := ∀ j, u j = if j < n then f j else if j < n + 4 then jby v (j - n) else f j
def jfeed (f : Nat → Int32) (n : Nat) (a b c d e : Int32) (u : Nat → Int32) : Prop := (n + 20 ≤ 340 → ∃ f1 f2 f3 f4 : Nat → Int32, jap4 f n a f1 ∧ jap4 f1 (n + 4) b f2 ∧ jap4 f2 (n + 8) c f3 ∧ jap4 f3 (n + 12) d f4 ∧ jap4 f4 (n + 16) e u) ∧ (¬ n + 20 ≤ 340 → u = f)
/-- the draw -/
def jdr (s : Int32) : Int32 := s * 1103515245 + 12345
def jdv (s : Int32) (n : Nat) : Nat := if n < 1 then 0 else ((jdr s).toBitVec.toNat / 2 ^ 8) % n
theorem jdr_sh (s : Int32) : ((jdr s).toUInt32 >>> ((nI 8).toUInt32 &&& Int32.toUInt32 31)).toInt32 = nI ((jdr s).toBitVec.toNat / 2 ^ 8) := by
  apply Int32.toBitVec_inj.mp
  apply BitVec.eq_of_toNat_eq
  rw [pk_ushr (jdr s) (nI 8) 8 (by rw [BitVec.toNat_umod]; exact j_sl 8 (by omega)), pk_tn]
  have := (jdr s).toBitVec.isLt
  omega
def jen (od ex : Nat) : Int32 := if od < 1 ∨ ex < 1 ∨ 6 < od then -1 else nI (2 * (od / ex) + 2 * ex - 3)
/-- the first run that makes g, from b on -/
def jrun (od : Nat) (mf f : Nat → Nat) (n g : Nat) (w : Int32) : Nat → Nat → Int32
  | 0, _ => -1
  | d + 1, b => if jrn od mf f g b (n - b) b 0 = -1 then jrun od mf f n g w d (b + 1) else if w = 0 then nI b else jrn od mf f g b (n - b) b 0
def jrunA (od : Nat) (mf f : Nat → Nat) (n : Nat) (g w : Int32) : Int32 := if jhas g od && decide (0 ≤ w.toInt ∧ w.toInt ≤ 1) then jrun od mf f n g.toNatClampNeg w n 0 else -1
section

variable {γ : jγ} {l : Launch} {x : jE} {ws : va_W} {lv : List (Option Value)} {st : List Value} {cs sl pc : Nat}
variable {rm : Room} {cc : ByteArray} {own : String} {ret : Option FieldType}

theorem J.ldcw (g : jG γ x rm cc own ret) {ix : Nat} {v : Int32} (hw : Cond.constant own ix v ∈ jTT) (hd : decode cc pc = .ok (.ldc_w ix, 3)) (k : J γ l x ws lv (.int v :: st) cs sl (pc + 3)) : J γ l x ws lv st cs sl pc := fun H locs ls hP hD hS hl0 => lv_ldcw g.1 g.2.1 g.2.2.2.1 (g.2.2.2.2.1 _ hw) hd (k H locs ls hP hD hS hl0)
end
theorem jen_3 {od ex : Nat} (ho : ¬ od < 1) (he : ¬ ex < 1) : 3 ≤ 2 * (od / ex) + 2 * ex := by
  by_cases h : ex = 1
  · subst h; rw [Nat.div_one]; omega
  · omega
theorem jrun_n {od : Nat} {mf f : Nat → Nat} {n g b : Nat} {w : Int32} (h : b < n) (e : jrn od mf f g b (n - b) b 0 = -1) : jrun od mf f n g w (n - b) b = jrun od mf f n g w (n - (b + 1)) (b + 1) := by
  rw [show n - b = (n - (b + 1)) + 1 by omega, jrun, if_pos e]
theorem jrun_0 {od : Nat} {mf f : Nat → Nat} {n g b : Nat} {w : Int32} (h : b < n) (e : ¬ jrn od mf f g b (n - b) b 0 = -1) (z : w = 0) : jrun od mf f n g w (n - b) b = nI b := by
  rw [show n - b = (n - (b + 1)) + 1 by omega, jrun, if_neg e, if_pos z]
theorem jrun_1 {od : Nat} {mf f : Nat → Nat} {n g b : Nat} {w : Int32} (h : b < n) (e : ¬ jrn od mf f g b (n - b) b 0 = -1) (z : ¬ w = 0) : jrun od mf f n g w (n - b) b = jrn od mf f g b (n - b) b 0 := by
  conv => lhs; rw [show n - b = (n - (b + 1)) + 1 by omega, jrun]
  rw [if_neg e, if_neg z]
theorem jrun_e {od : Nat} {mf f : Nat → Nat} {n g b : Nat} {w : Int32} (h : n ≤ b) : jrun od mf f n g w (n - b) b = -1 := by
  rw [show n - b = 0 by omega, jrun]
