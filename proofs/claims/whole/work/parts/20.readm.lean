/-! the reader's words -/
def jb8 (x : Int32) : Nat := x.toBitVec.toNat % 256
theorem jb8_eq (x : Int32) : x &&& 255 = nI (jb8 x) := pk_and x 8 (by decide)
theorem jb8_lt (x : Int32) : jb8 x < 256 := Nat.mod_lt _ (by decide)
def jbs (tf : Nat → Int32) (k : Nat) : Nat := jb8 (tf k)
theorem jbs_lt (tf : Nat → Int32) (k : Nat) : jbs tf k < 256 := jb8_lt _
def jKn : List (List Nat) := [[103, 114, 111, 117, 112], [112, 117, 116], [116, 105, 109, 101, 115], [110, 111, 32, 115, 117, 99, 104, 32, 115, 117, 98, 45, 114, 111, 119]]
def jcn (i k : Nat) : Nat := (jKn.getD i []).getD k 0
theorem jch_n : ∀ i, i < 4 → ∀ k, k < (jKb.getD i []).length → jch i k = nI (jcn i k) := by decide +kernel
theorem jcn_lt : ∀ i, i < 4 → ∀ k, k < (jKb.getD i []).length → jcn i k < 256 := by decide +kernel
def jbl (b : Nat) : Bool := decide (b = 32 ∨ b = 10)
def jdg (b : Nat) : Bool := decide (48 ≤ b ∧ b ≤ 57)
def jal (b : Nat) : Bool := decide (97 ≤ b ∧ b ≤ 122 ∨ 48 ≤ b ∧ b ≤ 57)
/-- blanks passed; letters and digits passed -/
def lsk (B : Nat → Nat) : Nat → Nat → Nat
  | 0, p => p
  | d + 1, p => if jbl (B p) then lsk B d (p + 1) else p
def lrn (B : Nat → Nat) : Nat → Nat → Nat
  | 0, p => p
  | d + 1, p => if jal (B p) then lrn B d (p + 1) else p
theorem lsk_0 {B : Nat → Nat} {l p : Nat} (h : l ≤ p) : lsk B (l - p) p = p := by rw [show l - p = 0 by omega]; rfl
theorem lsk_t {B : Nat → Nat} {l p : Nat} (h : p < l) (h2 : jbl (B p) = true) : lsk B (l - p) p = lsk B (l - (p + 1)) (p + 1) := by rw [show l - p = (l - (p + 1)) + 1 by omega, lsk, if_pos h2]
theorem lsk_f {B : Nat → Nat} {l p : Nat} (h2 : jbl (B p) = false) : lsk B (l - p) p = p := by
  cases l - p with
  | zero => rfl
  | succ d => rw [lsk, if_neg (by rw [h2]; decide)]
theorem lrn_0 {B : Nat → Nat} {l p : Nat} (h : l ≤ p) : lrn B (l - p) p = p := by rw [show l - p = 0 by omega]; rfl
theorem lrn_t {B : Nat → Nat} {l p : Nat} (h : p < l) (h2 : jal (B p) = true) : lrn B (l - p) p = lrn B (l - (p + 1)) (p + 1) := by rw [show l - p = (l - (p + 1)) + 1 by omega, lrn, if_pos h2]
theorem lrn_f {B : Nat → Nat} {l p : Nat} (h2 : jal (B p) = false) : lrn B (l - p) p = p := by
  cases l - p with
  | zero => rfl
  | succ d => rw [lrn, if_neg (by rw [h2]; decide)]
theorem lsk_le {B : Nat → Nat} : ∀ d p, p ≤ lsk B d p ∧ lsk B d p ≤ p + d
  | 0, p => ⟨Nat.le_refl _, Nat.le_refl _⟩
  | d + 1, p => by
    have := lsk_le (B := B) d (p + 1)
    unfold lsk
    split <;> omega
theorem lrn_le {B : Nat → Nat} : ∀ d p, p ≤ lrn B d p ∧ lrn B d p ≤ p + d
  | 0, p => ⟨Nat.le_refl _, Nat.le_refl _⟩
  | d + 1, p => by
    have := lrn_le (B := B) d (p + 1)
    unfold lrn
    split <;> omega
/-- is the text i at p? -/
def jsl (B : Nat → Nat) (p i : Nat) : Nat → Nat → Bool
  | 0, _ => true
  | d + 1, k => if B (p + k) = jcn i k then jsl B p i d (k + 1) else false
theorem jsl_0 {B : Nat → Nat} {p i l k : Nat} (h : l ≤ k) : jsl B p i (l - k) k = true := by rw [show l - k = 0 by omega]; rfl
theorem jsl_t {B : Nat → Nat} {p i l k : Nat} (h : k < l) (h2 : B (p + k) = jcn i k) : jsl B p i (l - k) k = jsl B p i (l - (k + 1)) (k + 1) := by rw [show l - k = (l - (k + 1)) + 1 by omega, jsl, if_pos h2]
theorem jsl_f {B : Nat → Nat} {p i l k : Nat} (h : k < l) (h2 : ¬ B (p + k) = jcn i k) : jsl B p i (l - k) k = false := by rw [show l - k = (l - (k + 1)) + 1 by omega, jsl, if_neg h2]
def jspl (B : Nat → Nat) (p q i : Nat) : Bool := decide (q - p = (jKb.getD i []).length) && jsl B p i (jKb.getD i []).length 0
/-- how many digits stand at p, at most d -/
def jld (B : Nat → Nat) (p : Nat) : Nat → Nat → Nat
  | 0, c => c
  | d + 1, c => if jdg (B (p + c)) then jld B p d (c + 1) else c
def jacc (B : Nat → Nat) (p : Nat) : Nat → Nat
  | 0 => 0
  | c + 1 => jacc B p c * 10 + (B (p + c) - 48)
def jisn (B : Nat → Nat) (p q : Nat) : Bool := decide (1 ≤ q - p ∧ q - p ≤ 2) && decide (jld B p (q - p) 0 = q - p)
def jnb (B : Nat → Nat) (p q nm : Nat) : Nat := if 1 ≤ q - p ∧ q - p ≤ 2 then jacc B p (jld B p (q - p) 0) else nm
theorem jld_e {B : Nat → Nat} {p l c : Nat} (h : l ≤ c) : jld B p (l - c) c = c := by rw [show l - c = 0 by omega]; rfl
theorem jld_t {B : Nat → Nat} {p l c : Nat} (h : c < l) (h2 : jdg (B (p + c)) = true) : jld B p (l - c) c = jld B p (l - (c + 1)) (c + 1) := by rw [show l - c = (l - (c + 1)) + 1 by omega, jld, if_pos h2]
theorem jld_f {B : Nat → Nat} {p l c : Nat} (h : c < l) (h2 : jdg (B (p + c)) = false) : jld B p (l - c) c = c := by rw [show l - c = (l - (c + 1)) + 1 by omega, jld, if_neg (by rw [h2]; decide)]
def jkd (B : Nat → Nat) (p q : Nat) : Nat := if jisn B p q then 2 else if jspl B p q 0 then 4 else if jspl B p q 1 then 5 else if jspl B p q 2 then 6 else 1
/-- the next token: where to go on, kind, place, number -/
def jtok (B : Nat → Nat) (len : Nat) (t : Nat × Nat × Nat × Nat) : Nat × Nat × Nat × Nat :=
  if min len 300 ≤ lsk B (min len 300 - t.1) t.1 then (lsk B (min len 300 - t.1) t.1, (if 300 < len then 1 else 0), min (lsk B (min len 300 - t.1) t.1) (min len 300), t.2.2.2)
  else if B (lsk B (min len 300 - t.1) t.1) = 59 then (lsk B (min len 300 - t.1) t.1 + 1, 3, min (lsk B (min len 300 - t.1) t.1) (min len 300), t.2.2.2)
  else (lrn B (len - lsk B (min len 300 - t.1) t.1) (lsk B (min len 300 - t.1) t.1), jkd B (min (lsk B (min len 300 - t.1) t.1) (min len 300)) (lrn B (len - lsk B (min len 300 - t.1) t.1) (lsk B (min len 300 - t.1) t.1)), min (lsk B (min len 300 - t.1) t.1) (min len 300), jnb B (min (lsk B (min len 300 - t.1) t.1) (min len 300)) (lrn B (len - lsk B (min len 300 - t.1) t.1) (lsk B (min len 300 - t.1) t.1)) t.2.2.2)
theorem jtok_1 {B : Nat → Nat} {len p : Nat} {t : Nat × Nat × Nat × Nat} (hp : lsk B (min len 300 - t.1) t.1 = p) (h : min len 300 ≤ p) : jtok B len t = (p, (if 300 < len then 1 else 0), min p (min len 300), t.2.2.2) := by unfold jtok; rw [hp, if_pos h]
theorem jtok_2 {B : Nat → Nat} {len p : Nat} {t : Nat × Nat × Nat × Nat} (hp : lsk B (min len 300 - t.1) t.1 = p) (h : p < min len 300) (h2 : B p = 59) : jtok B len t = (p + 1, 3, min p (min len 300), t.2.2.2) := by unfold jtok; rw [hp, if_neg (by omega), if_pos h2]
theorem jtok_3 {B : Nat → Nat} {len p p2 : Nat} {t : Nat × Nat × Nat × Nat} (hp : lsk B (min len 300 - t.1) t.1 = p) (h : p < min len 300) (h2 : ¬ B p = 59) (hp2 : lrn B (len - p) p = p2) : jtok B len t = (p2, jkd B (min p (min len 300)) p2, min p (min len 300), jnb B (min p (min len 300)) p2 t.2.2.2) := by unfold jtok; rw [hp, if_neg (by omega), if_neg h2, hp2]
/-- the reader: token, group and rows, fault, row -/
abbrev jRS : Type := (Nat × Nat × Nat × Nat) × (Nat × Nat) × (Nat × Nat × Int32) × (Nat × (Nat → Nat))
def jrTok (B : Nat → Nat) (len : Nat) (q : jRS) : jRS := (jtok B len q.1, q.2)
def jrFail (k pl : Nat) (q : jRS) : jRS := (q.1, q.2.1, (k, pl, nI q.2.1.2), q.2.2.2)
def jov : Option Nat → Int32
  | none => -1
  | some e => nI e
def jrSemi (B : Nat → Nat) (len : Nat) (q : jRS) : Bool × jRS := if q.1.2.1 = 3 then (true, jrTok B len q) else (false, jrFail 1 q.1.2.2.1 q)
def jrElt (B : Nat → Nat) (len : Nat) : Nat → Nat → Nat → jRS → Option Nat × jRS
  | 0, _, el, q => (some el, q)
  | d + 1, i, el, q => if gsz q.2.1.1 i = 0 then (some el, q) else if ¬ q.1.2.1 = 2 then (none, jrFail 1 q.1.2.2.1 q) else if gsz q.2.1.1 i ≤ q.1.2.2.2 then (none, jrFail 2 q.1.2.2.1 q) else jrElt B len d (i + 1) (el * gsz q.2.1.1 i + q.1.2.2.2) (jrTok B len q)
def jrHow (B : Nat → Nat) (len : Nat) (q : jRS) : Option Nat × jRS := if ¬ q.1.2.1 = 2 then (none, jrFail 1 q.1.2.2.1 q) else if q.1.2.2.2 < 1 ∨ 12 < q.2.2.2.1 + q.1.2.2.2 then (none, jrFail 2 q.1.2.2.1 q) else (some q.1.2.2.2, jrTok B len q)
def jrGrp (B : Nat → Nat) (len : Nat) : Nat → Nat → Nat → jRS → Bool × jRS
  | 0, _, _, q => jrSemi B len q
  | d + 1, i, od, q => if ¬ i = 0 ∧ ¬ q.1.2.1 = 2 then jrSemi B len q else if ¬ q.1.2.1 = 2 then (false, jrFail 1 q.1.2.2.1 q) else if q.1.2.2.2 < 2 ∨ 24 < q.1.2.2.2 ∨ 24 < od * q.1.2.2.2 then (false, jrFail 2 q.1.2.2.1 q) else jrGrp B len d (i + 1) (od * q.1.2.2.2) (jrTok B len (q.1, (q.2.1.1 ||| q.1.2.2.2 <<< (5 * i), q.2.1.2), q.2.2))
def jrGroup (B : Nat → Nat) (len : Nat) (q : jRS) : Bool × jRS := if ¬ q.1.2.1 = 4 then (false, jrFail 1 q.1.2.2.1 q) else jrGrp B len 3 0 1 (jrTok B len q)
def jrApp (e : Nat) : Nat → jRS → jRS
  | 0, q => q
  | d + 1, q => ((jrApp e d q).1, (jrApp e d q).2.1, (jrApp e d q).2.2.1, ((jrApp e d q).2.2.2.1 + 1, va_up (jrApp e d q).2.2.2.2 (jrApp e d q).2.2.2.1 e))
def jrPut2 (B : Nat → Nat) (len pl e : Nat) (told : Bool) (h : Option Nat × jRS) : Bool × jRS := match h.1 with
  | none => (false, h.2)
  | some n => if (jrSemi B len h.2).1 = false then (false, (jrSemi B len h.2).2) else if told = false ∧ 12 ≤ (jrSemi B len h.2).2.2.2.2.1 then (false, jrFail 3 pl (jrSemi B len h.2).2) else (true, jrApp e n (jrSemi B len h.2).2)
def jrPut1 (B : Nat → Nat) (len pl : Nat) (h : Option Nat × jRS) : Bool × jRS := match h.1 with
  | none => (false, h.2)
  | some e => if h.2.1.2.1 = 6 then jrPut2 B len pl e true (jrHow B len (jrTok B len h.2)) else jrPut2 B len pl e false (some 1, h.2)
def jrPut (B : Nat → Nat) (len : Nat) (q : jRS) : Bool × jRS := if ¬ q.1.2.1 = 5 then (false, jrFail 1 q.1.2.2.1 q) else jrPut1 B len q.1.2.2.1 (jrElt B len 3 0 0 (jrTok B len q))
def jrRow (B : Nat → Nat) (len i : Nat) (q : jRS) : Bool × jRS := if i = 0 then jrGroup B len q else jrPut B len q
def jrAll (B : Nat → Nat) (len : Nat) : Nat → Nat → jRS → jRS
  | 0, _, q => q
  | d + 1, i, q => if ¬ q.2.2.1.1 = 0 then q else if q.1.2.1 = 0 then q else jrAll B len d (i + 1) (if (jrRow B len i q).1 = true then ((jrRow B len i q).2.1, ((jrRow B len i q).2.2.1.1, (jrRow B len i q).2.2.1.2 + 1), (jrRow B len i q).2.2.2) else (jrRow B len i q).2)
/-- what bounds the reader's numbers -/
def jRB (q : jRS) : Prop := (q.1.1 ≤ 340 ∧ q.1.2.1 < 10 ∧ q.1.2.2.1 ≤ 300 ∧ q.1.2.2.2 < 2 ^ 12) ∧ (q.2.1.1 < 2 ^ 15 ∧ q.2.1.2 < 2 ^ 20) ∧ (q.2.2.1.1 < 10 ∧ q.2.2.1.2.1 ≤ 340) ∧ q.2.2.2.1 ≤ 12
section
variable {B : Nat → Nat} {p q i : Nat}
theorem jspl_1 (h : ¬ q - p = (jKb.getD i []).length) : jspl B p q i = false := by unfold jspl; rw [decide_eq_false h]; rfl
theorem jspl_2 (h : q - p = (jKb.getD i []).length) (h2 : jsl B p i (jKb.getD i []).length 0 = true) : jspl B p q i = true := by unfold jspl; rw [decide_eq_true h, h2]; rfl
theorem jspl_3 (h2 : jsl B p i (jKb.getD i []).length 0 = false) : jspl B p q i = false := by unfold jspl; rw [h2, Bool.and_false]
theorem jisn_1 (h : q - p < 1) : jisn B p q = false := by unfold jisn; rw [decide_eq_false (by omega)]; rfl
theorem jisn_2 (h : 2 < q - p) : jisn B p q = false := by unfold jisn; rw [decide_eq_false (by omega)]; rfl
theorem jisn_3 {c : Nat} (h : jld B p (q - p) 0 = c) (hc : ¬ c = q - p) : jisn B p q = false := by unfold jisn; rw [h, decide_eq_false hc, Bool.and_false]
theorem jisn_4 {c : Nat} (h1 : 1 ≤ q - p) (h2 : q - p ≤ 2) (h : jld B p (q - p) 0 = c) (hc : c = q - p) : jisn B p q = true := by unfold jisn; rw [h, decide_eq_true hc, decide_eq_true ⟨h1, h2⟩]; rfl
theorem jnb_1 {nm : Nat} (h : q - p < 1) : jnb B p q nm = nm := if_neg (by omega)
theorem jnb_2 {nm : Nat} (h : 2 < q - p) : jnb B p q nm = nm := if_neg (by omega)
theorem jnb_3 {nm c : Nat} (h1 : 1 ≤ q - p) (h2 : q - p ≤ 2) (h : jld B p (q - p) 0 = c) : jnb B p q nm = jacc B p c := by unfold jnb; rw [if_pos ⟨h1, h2⟩, h]
end
