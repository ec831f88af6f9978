/-! the face: more answers -/
section

variable {γ : jγ} {l : Launch} {x : jE} {ws : va_W} {lv : List (Option Value)} {st : List Value} {cs sl pc : Nat}
variable {rm : Room} {cc : ByteArray} {own : String} {ret : Option FieldType}

theorem J.ts (g : jG γ x rm cc own ret) {x9 : Int32} {dflt hi : Int} {offs : Array Int} {len N dt : Nat} (tg : List Nat) (hd : decode cc pc = .ok (.tableswitch dflt 0 hi offs, len)) (hN : hi + 1 = (N : Int)) (hN2 : N < 2 ^ 31) (ht : ((List.range N).all fun k => match offs[k]? with | some off => decide ((pc : Int) + off = ((tg.getD k 0 : Nat) : Int)) | none => false) = true) (hdt : (pc : Int) + dflt = (dt : Int))
    (kin : ∀ k : Nat, k < N → x9 = nI k → J γ l x ws lv st cs sl (tg.getD k 0)) (kout : jhas x9 N = false → J γ l x ws lv st cs sl dt) : J γ l x ws lv (.int x9 :: st) cs sl pc := by
  intro H locs ls hP hD hS hl0
  cases hh : jhas x9 N with
  | false =>
    refine lv_tableOut g.1 g.2.1 hd ?_ hdt (kout hh H locs ls hP hD hS hl0)
    have := of_decide_eq_false hh
    omega
  | true =>
    obtain ⟨k, hk, rfl⟩ := jhas_t hh
    have h1 := List.all_eq_true.mp ht k (List.mem_range.mpr hk)
    cases ho : offs[k]? with
    | none => rw [ho] at h1; cases h1
    | some off =>
      rw [ho] at h1
      have h1 := of_decide_eq_true h1
      have hk2 : (nI k).toInt = k := nI_toInt (by omega)
      refine lv_tableIn g.1 g.2.1 hd (by rw [hk2]; omega) (by rw [hk2]; omega) (off := off) (by rw [hk2]; simpa using ho) h1 (kin k hk rfl H locs ls hP hD hS hl0)
end
theorem jput_app : ∀ (is js : List Nat) (ws e1 e2 : va_W), is.length = e1.length → jput ws (is ++ js) (e1 ++ e2) = jput (jput ws is e1) js e2
  | [], js, ws, [], e2, _ => by show jput ws js e2 = jput (ws ++ []) js e2; rw [List.append_nil]
  | [], _, _, _ :: _, _, h => by simp at h
  | _ :: _, _, _, [], _, h => by simp at h
  | i :: is, js, ws, z :: e1, e2, h => jput_app is js (ws.set i z) e1 e2 (by simpa using h)
theorem jput_len : ∀ (is : List Nat) (ws es : va_W), is.length = es.length → (jput ws is es).length = ws.length
  | [], ws, [], _ => by show (ws ++ []).length = _; rw [List.append_nil]
  | [], _, _ :: _, h => by simp at h
  | _ :: _, _, [], h => by simp at h
  | i :: is, ws, z :: es, h => by
    show (jput (ws.set i z) is es).length = _
    rw [jput_len is _ es (by simpa using h), List.length_set]
theorem jput_base : ∀ (is : List Nat) (ws R es : va_W), is.length = es.length → (is.all fun i => decide (i < ws.length)) = true → jput (ws ++ R) is es = jput ws is es ++ R
  | [], ws, R, [], _, _ => by show ws ++ R ++ [] = ws ++ [] ++ R; rw [List.append_nil, List.append_nil]
  | [], _, _, _ :: _, h, _ => by simp at h
  | _ :: _, _, _, [], h, _ => by simp at h
  | i :: is, ws, R, z :: es, h, hi => by
    rw [List.all_cons, Bool.and_eq_true] at hi
    show jput ((ws ++ R).set i z) is es = jput (ws.set i z) is es ++ R
    rw [List.set_append_left _ _ (of_decide_eq_true hi.1)]
    exact jput_base is (ws.set i z) R es (by simpa using h) (by rw [List.length_set]; exact hi.2)
theorem jput_rng : ∀ (Y X P : va_W), X.length = Y.length → jput (P ++ X) (List.range' P.length Y.length) Y = P ++ Y
  | [], X, P, h => by
    have : X = [] := List.eq_nil_of_length_eq_zero h
    subst this
    show P ++ [] ++ [] = P ++ []
    rw [List.append_nil]
  | y :: Y, [], P, h => by simp at h
  | y :: Y, x :: X, P, h => by
    show jput ((P ++ x :: X).set P.length y) (List.range' (P.length + 1) Y.length) Y = _
    have h1 : (P ++ x :: X).set P.length y = (P ++ [y]) ++ X := by
      rw [List.set_append_right _ _ (Nat.le_refl _), Nat.sub_self]
      simp
    have h2 := jput_rng Y X (P ++ [y]) (by simpa using h)
    rw [List.length_append, List.length_singleton] at h2
    rw [h1, h2]
    simp
theorem jrows_len {γ : jγ} {ad : Nat → Nat} {k n : Nat} {M : Nat → Nat → Nat} : (jrows γ ad k n M).length = k := by simp [jrows]
theorem jput_pool {γ : jγ} {ad : Nat → Nat} {k n b : Nat} {M M' : Nat → Nat → Nat} {base es1 : va_W} {is1 : List Nat} (hb : base.length = b) (h1 : is1.length = es1.length) (hi : (is1.all fun i => decide (i < b)) = true) :
    jput (base ++ jrows γ ad k n M) (is1 ++ List.range' b k) (es1 ++ jrows γ ad k n M') = jput base is1 es1 ++ jrows γ ad k n M' := by
  subst hb
  rw [jput_app _ _ _ _ _ h1, jput_base _ _ _ _ h1 hi]
  have h2 := jput_rng (jrows γ ad k n M') (jrows γ ad k n M) (jput base is1 es1) (by rw [jrows_len, jrows_len])
  rw [jrows_len, jput_len _ _ _ h1] at h2
  exact h2
/-- the answer by a number below N -/
def jsel (w : Int32) (F : List Int32) : Int32 := if jhas w F.length then F.getD w.toNatClampNeg (-1) else -1
theorem jsel_f {w : Int32} {F : List Int32} (h : jhas w F.length = false) : jsel w F = -1 := by simp [jsel, h]
theorem jsel_t {k N : Nat} {F : List Int32} (hN : F.length = N) (h : k < N) (h2 : N < 2 ^ 31) : jsel (nI k) F = F.getD k (-1) := by
  subst hN
  unfold jsel
  rw [jhas_n _ (by omega), decide_eq_true h, nI_clamp (by omega)]
  rfl
/-- how many of the first places differ -/
def jels (f g : Nat → Nat) : Nat → Nat
  | 0 => 0
  | i + 1 => if g i = f i then jels f g i else jels f g i + 1
theorem jels_le {f g : Nat → Nat} : ∀ n, jels f g n ≤ n
  | 0 => Nat.le_refl 0
  | n + 1 => by
    have := jels_le (f := f) (g := g) n
    unfold jels
    split <;> omega
theorem jels_e {f g : Nat → Nat} {i : Nat} (h : g i = f i) : jels f g (i + 1) = jels f g i := by rw [jels, if_pos h]
theorem jels_n {f g : Nat → Nat} {i : Nat} (h : ¬ g i = f i) : jels f g (i + 1) = jels f g i + 1 := by rw [jels, if_neg h]
theorem jwi_t {w : Int32} (h0 : ¬ w < 0) (h1 : w ≤ nI 1) : w = nI 0 ∨ w = nI 1 := by
  rw [Int32.le_iff_toInt_le, nI_toInt (by omega)] at h1
  obtain ⟨k, hk, rfl⟩ := nI_of h0
  rw [nI_toInt hk] at h1
  have : k = 0 ∨ k = 1 := by omega
  rcases this with rfl | rfl
  · exact Or.inl rfl
  · exact Or.inr rfl
theorem msub_bit {od : Nat} {mf af f : Nat → Nat} (hT : jtab od mf af) (hf : ∀ a, a < od → ∀ e, e < od → jpl od mf (jpl od mf e a) (jop od af a) = e) : ∀ {p l c : Nat}, f p < od → (msub od mf f (p + 1) c).testBit l = true → (msub od mf f p c).testBit l = false → 1 ≤ c ∧ (msub od mf f p (c - 1)).testBit (jpl od mf l (jop od af (f p))) = true := by
  intro p l c hp h1 h2
  cases c with
  | zero =>
    rw [msub_1] at h1
    rw [msub_1, h1] at h2
    cases h2
  | succ c =>
    refine ⟨by omega, ?_⟩
    rw [msub, Nat.testBit_or, h2, Bool.false_or] at h1
    have : ∀ e, e ≤ od → (jmoved od mf (msub od mf f p c) (f p) e).testBit l = true → ∃ a, a < e ∧ (msub od mf f p c).testBit a = true ∧ jpl od mf a (f p) = l := by
      intro e
      induction e with
      | zero => intro _ h; rw [jmoved, Nat.zero_testBit] at h; cases h
      | succ e ih =>
        intro he h
        rw [jmoved] at h
        by_cases q : (msub od mf f p c).testBit e = true
        · rw [if_pos q, Nat.testBit_or] at h
          by_cases q2 : jpl od mf e (f p) = l
          · exact ⟨e, by omega, q, q2⟩
          · have : (1 <<< jpl od mf e (f p)).testBit l = false := by
              rw [Nat.one_shiftLeft, Nat.testBit_two_pow_of_ne q2]
            rw [this, Bool.or_false] at h
            obtain ⟨a, h3, h4⟩ := ih (by omega) h
            exact ⟨a, by omega, h4⟩
        · rw [if_neg q] at h
          obtain ⟨a, h3, h4⟩ := ih (by omega) h
          exact ⟨a, by omega, h4⟩
    obtain ⟨a, ha, h3, rfl⟩ := this od (Nat.le_refl _) h1
    show (msub od mf f p c).testBit _ = true
    rw [hf (f p) hp a ha]
    exact h3
theorem nI_ne_neg {k : Nat} (h : k < 2 ^ 31) : ¬ nI k = -1 := fun q => by
  have h1 := congrArg Int32.toInt q
  rw [nI_toInt h] at h1
  have h2 : (-1 : Int32).toInt = -1 := by decide
  omega
theorem jors_congr {g h : Nat → Nat} : ∀ k, (∀ j, 1 ≤ j → j ≤ k → g j = h j) → jors g k = jors h k
  | 0, _ => rfl
  | k + 1, hh => by
    unfold jors
    rw [jors_congr k (fun j h1 h2 => hh j h1 (by omega)), hh (k + 1) (by omega) (Nat.le_refl _)]
theorem jfw_congr {M M' : Nat → Nat → Nat} {pn gg : Nat} : ∀ d k, (∀ j, k ≤ j → j < k + d → M pn j = M' pn j) → jfw M pn gg d k = jfw M' pn gg d k
  | 0, k, _ => rfl
  | d + 1, k, h => by
    unfold jfw
    rw [h k (Nat.le_refl _) (by omega), jfw_congr d (k + 1) (fun j h1 h2 => h j (by omega) (by omega))]
theorem jfw_k {M : Nat → Nat → Nat} {pn gg : Nat} : ∀ d k, ¬ jfw M pn gg d k = -1 → ∃ j, k ≤ j ∧ j < k + d ∧ jfw M pn gg d k = nI j ∧ (M pn j).testBit gg = true
  | 0, k, h => absurd rfl h
  | d + 1, k, h => by
    unfold jfw at h ⊢
    by_cases q : (M pn k).testBit gg = true
    · rw [if_pos q]; exact ⟨k, Nat.le_refl _, by omega, rfl, q⟩
    · rw [if_neg q] at h ⊢
      obtain ⟨j, h1, h2, h3, h4⟩ := jfw_k d (k + 1) h
      exact ⟨j, by omega, by omega, h3, h4⟩
theorem jls_congr {od : Nat} {mf af f : Nat → Nat} {M M' : Nat → Nat → Nat} : ∀ p l c s, c ≤ 12 → (∀ i, i ≤ p → ∀ k, k ≤ 12 → M i k = M' i k) → jls od mf af f M p l c s = jls od mf af f M' p l c s
  | 0, _, _, _, _, _ => rfl
  | p + 1, l, c, s, hc, h => by
    unfold jls
    rw [h p (by omega) c hc, jls_congr p l c s hc (fun i hi => h i (by omega)), jls_congr p _ (c - 1) _ (by omega) (fun i hi => h i (by omega))]
theorem jhl_congr {M M' : Nat → Nat → Nat} {pn : Nat} (h : ∀ j, 1 ≤ j → j ≤ pn → M pn j = M' pn j) : jhl M pn = jhl M' pn := by
  unfold jhl
  rw [jfw_congr pn 1 (fun j h1 h2 => h j h1 (by omega))]
/-- found: of k places (w 0), which (w 1) -/
def jfnd (od : Nat) (mf af f : Nat → Nat) (n gg : Nat) (w : Int32) : Int32 :=
  if jfw (msub od mf f) n gg n 1 = -1 then -1 else if w = 0 then jfw (msub od mf f) n gg n 1 else nI (jls od mf af f (msub od mf f) n gg (jfw (msub od mf f) n gg n 1).toNatClampNeg 0)
theorem jfnd_n {od : Nat} {mf af f : Nat → Nat} {n gg : Nat} {w : Int32} (h : jfw (msub od mf f) n gg n 1 = -1) : jfnd od mf af f n gg w = -1 := by rw [jfnd, if_pos h]
theorem jfnd_0 {od : Nat} {mf af f : Nat → Nat} {n gg k : Nat} {w : Int32} (h : jfw (msub od mf f) n gg n 1 = nI k) (hk : k < 2 ^ 31) (hw : w = 0) : jfnd od mf af f n gg w = nI k := by
  rw [jfnd, if_neg (by rw [h]; exact nI_ne_neg hk), if_pos hw, h]
theorem jfnd_1 {od : Nat} {mf af f : Nat → Nat} {n gg k : Nat} {w : Int32} (h : jfw (msub od mf f) n gg n 1 = nI k) (hk : k < 2 ^ 31) (hw : ¬ w = 0) : jfnd od mf af f n gg w = nI (jls od mf af f (msub od mf f) n gg k 0) := by
  rw [jfnd, if_neg (by rw [h]; exact nI_ne_neg hk), if_neg hw, h, nI_clamp (by omega)]
def jfree (od : Nat) (mf af f : Nat → Nat) (n k : Nat) : Nat :=
  if k = 1 then (if jsa od mf f n = 0 ∧ jhl (msub od mf f) n = false then 1 else 0)
  else if (jors (msub od mf f n) n).testBit 0 = true then 0 else if k = 0 then 1 else jwo od af (jors (msub od mf f n) n) od
section
variable {od : Nat} {mf af f : Nat → Nat} {n k : Nat}
theorem jfree_a (h : k = 1) (h2 : ¬ jsa od mf f n = 0) : jfree od mf af f n k = 0 := by unfold jfree; rw [if_pos h, if_neg (fun z => h2 z.1)]
theorem jfree_b (h : k = 1) (h2 : jhl (msub od mf f) n = true) : jfree od mf af f n k = 0 := by unfold jfree; rw [if_pos h, if_neg (fun z => by rw [h2] at z; cases z.2)]
theorem jfree_c (h : k = 1) (h2 : jsa od mf f n = 0) (h3 : jhl (msub od mf f) n = false) : jfree od mf af f n k = 1 := by unfold jfree; rw [if_pos h, if_pos ⟨h2, h3⟩]
theorem jfree_t (h : ¬ k = 1) (h2 : (jors (msub od mf f n) n).testBit 0 = true) : jfree od mf af f n k = 0 := by unfold jfree; rw [if_neg h, if_pos h2]
theorem jfree_0 (h : ¬ k = 1) (h2 : (jors (msub od mf f n) n).testBit 0 = false) (h3 : k = 0) : jfree od mf af f n k = 1 := by unfold jfree; rw [if_neg h, if_neg (by rw [h2]; decide), if_pos h3]
theorem jfree_2 (h : ¬ k = 1) (h2 : (jors (msub od mf f n) n).testBit 0 = false) (h3 : ¬ k = 0) : jfree od mf af f n k = jwo od af (jors (msub od mf f n) n) od := by unfold jfree; rw [if_neg h, if_neg (by rw [h2]; decide), if_neg h3]
end
theorem jws_congr {W W' : Nat → Nat → Nat} {gg : Nat} : ∀ k, (∀ j, 1 ≤ j → j ≤ k → W j gg = W' j gg) → jws W gg k = jws W' gg k
  | 0, _ => rfl
  | k + 1, h => by unfold jws; rw [jws_congr k (fun j h1 h2 => h j h1 (by omega)), h (k + 1) (by omega) (Nat.le_refl _)]
theorem jsa_pos {od : Nat} {mf f : Nat → Nat} {n : Nat} (h : jsa od mf f n = 0) : 1 ≤ n := by
  rcases Nat.eq_zero_or_pos n with z | z
  · subst z
    exact absurd h (by show ¬ ((-1 : Int32) = 0); decide)
  · exact z
theorem jhas_le {w : Int32} {N : Nat} (hN : N < 2 ^ 30) (h0 : ¬ w < 0) (h : ¬ nI N < w) : jhas w (N + 1) = true := by
  refine decide_eq_true ⟨j_nlt0 h0, ?_⟩
  rw [Int32.lt_iff_toInt_lt, nI_toInt (by omega)] at h
  omega
theorem jhas_le2 {w : Int32} {N : Nat} (hN : N < 2 ^ 30) (h0 : ¬ w < 0) (h : w ≤ nI N) : jhas w (N + 1) = true := by
  refine decide_eq_true ⟨j_nlt0 h0, ?_⟩
  rw [Int32.le_iff_toInt_le, nI_toInt (by omega)] at h
  omega
theorem jn1_nn {w : Int32} (h : ¬ w < nI 1) : ¬ w < 0 := by
  rw [Int32.lt_iff_toInt_lt, nI_toInt (by omega)] at h
  rw [Int32.lt_iff_toInt_lt, Int32.toInt_zero]
  omega
theorem jins_congr {gg : Nat} {n : Nat} : ∀ (p : Nat) (f h : Nat → Nat), p < n → (∀ j, j < n → f j = h j) → ∀ j, j < n → jins gg p f j = jins gg p h j
  | 0, f, h, hp, hh, j, hj => by
    unfold jins va_up
    split
    · rfl
    · exact hh j hj
  | p + 1, f, h, hp, hh, j, hj => by
    unfold jins
    rw [hh p (by omega)]
    split
    · refine jins_congr p _ _ (by omega) (fun i hi => ?_) j hj
      unfold va_up
      split
      · rfl
      · exact hh i hi
    · unfold va_up
      split
      · rfl
      · exact hh j hj
theorem jsrt_congr {f h : Nat → Nat} {n : Nat} (hh : ∀ j, j < n → f j = h j) : ∀ i, i < n → ∀ j, j < n → jsrt f i j = jsrt h i j
  | 0, _, j, hj => hh j hj
  | i + 1, hi, j, hj => by
    unfold jsrt
    rw [jsrt_congr hh i (by omega) (i + 1) hi]
    exact jins_congr (i + 1) _ _ hi (jsrt_congr hh i (by omega)) j hj
theorem jsrt_congr1 {f h : Nat → Nat} {n : Nat} (hh : ∀ j, j < n → f j = h j) : ∀ j, j < n → jsrt f (n - 1) j = jsrt h (n - 1) j := fun j hj => jsrt_congr hh (n - 1) (by omega) j hj
theorem jlt_congr {f h f' h' : Nat → Nat} : ∀ d i, (∀ j, i ≤ j → j < i + d → f j = f' j) → (∀ j, i ≤ j → j < i + d → h j = h' j) → jlt f h d i = jlt f' h' d i
  | 0, i, _, _ => rfl
  | d + 1, i, h1, h2 => by
    unfold jlt
    rw [h1 i (Nat.le_refl _) (by omega), h2 i (Nat.le_refl _) (by omega), jlt_congr d (i + 1) (fun j a b => h1 j (by omega) (by omega)) (fun j a b => h2 j (by omega) (by omega))]
/-- the least of the rows alike, u from 2 to m + 1 tried -/
def jlku (od : Nat) (mf f : Nat → Nat) (n u : Nat) : Nat → Nat := jsrt (fun j => jmul od mf (f j) u) (n - 1)
def jlk (od ex : Nat) (mf f : Nat → Nat) (n : Nat) : Nat → (Nat → Nat)
  | 0 => jsrt f (n - 1)
  | m + 1 => if junit ex (m + 2) = true ∧ jlt (jlku od mf f n (m + 2)) (jlk od ex mf f n m) n 0 = true then jlku od mf f n (m + 2) else jlk od ex mf f n m
theorem jlk_0 {od ex : Nat} {mf f : Nat → Nat} {n u : Nat} (hu : 2 ≤ u) (h : ¬ (junit ex u = true ∧ jlt (jlku od mf f n u) (jlk od ex mf f n (u - 2)) n 0 = true)) : jlk od ex mf f n (u - 1) = jlk od ex mf f n (u - 2) := by
  obtain ⟨m, rfl⟩ : ∃ m, u = m + 2 := ⟨u - 2, by omega⟩
  replace h : ¬ (junit ex (m + 2) = true ∧ jlt (jlku od mf f n (m + 2)) (jlk od ex mf f n m) n 0 = true) := h
  show jlk od ex mf f n (m + 1) = jlk od ex mf f n m
  rw [jlk, if_neg h]
theorem jlk_1 {od ex : Nat} {mf f : Nat → Nat} {n u : Nat} (hu : 2 ≤ u) (h : junit ex u = true ∧ jlt (jlku od mf f n u) (jlk od ex mf f n (u - 2)) n 0 = true) : jlk od ex mf f n (u - 1) = jlku od mf f n u := by
  obtain ⟨m, rfl⟩ : ∃ m, u = m + 2 := ⟨u - 2, by omega⟩
  replace h : junit ex (m + 2) = true ∧ jlt (jlku od mf f n (m + 2)) (jlk od ex mf f n m) n 0 = true := h
  show jlk od ex mf f n (m + 1) = _
  rw [jlk, if_pos h]
theorem jlk_24 {od ex : Nat} {mf af f : Nat → Nat} {n : Nat} (hT : jtab od mf af) (hf : ∀ j, j < n → f j < 24) (hn : 1 ≤ n) : ∀ m j, j < n → jlk od ex mf f n m j < 24
  | 0, j, hj => jsrt_24 hf (n - 1) (by omega) j hj
  | m + 1, j, hj => by
    unfold jlk
    split
    · exact jsrt_24 (fun i _ => jmul_24 hT _ _) (n - 1) (by omega) j hj
    · exact jlk_24 hT hf hn m j hj
/-- one drawn deed -/
def jdd (od ex : Nat) (mf : Nat → Nat) (q : Int32 × Nat × (Nat → Nat)) : Bool × Int32 × Nat × (Nat → Nat) :=
  if od = 0 then (false, jdr q.1, q.2.1, q.2.2)
  else if jdv q.1 4 = 0 then (if 0 < q.2.1 then (true, jdr (jdr q.1), q.2.1 - 1, fun j => if jdv (jdr q.1) q.2.1 ≤ j ∧ j < q.2.1 - 1 then q.2.2 (j + 1) else q.2.2 j) else (false, jdr q.1, q.2.1, q.2.2))
  else if jdv q.1 4 = 1 then (if jcm ex q.2.1 (nI (jdv (jdr q.1) ex + 1)) = true then (true, jdr (jdr q.1), q.2.1, fun j => jmul od mf (q.2.2 j) (jdv (jdr q.1) ex + 1)) else (false, jdr (jdr q.1), q.2.1, q.2.2))
  else if q.2.1 < 12 then (true, jdr (jdr q.1), q.2.1 + 1, va_up q.2.2 q.2.1 (jdv (jdr q.1) od)) else (false, jdr (jdr q.1), q.2.1, q.2.2)
def jdAg (q r : Int32 × Nat × (Nat → Nat)) : Prop := q.1 = r.1 ∧ q.2.1 = r.2.1 ∧ ∀ j, j < q.2.1 → q.2.2 j = r.2.2 j
theorem jdd_0 {od ex : Nat} {mf : Nat → Nat} {s : Int32} {n : Nat} {f : Nat → Nat} (h0 : od = 0) : jdd od ex mf (s, n, f) = (false, jdr s, n, f) := by rw [jdd, if_pos h0]
theorem jdd_g {od ex : Nat} {mf : Nat → Nat} {s : Int32} {n : Nat} {f : Nat → Nat} (h0 : ¬ od = 0) (h1 : jdv s 4 = 0) (h2 : 0 < n) : jdd od ex mf (s, n, f) = (true, jdr (jdr s), n - 1, fun j => if jdv (jdr s) n ≤ j ∧ j < n - 1 then f (j + 1) else f j) := by rw [jdd, if_neg h0, if_pos h1, if_pos h2]
theorem jdd_g0 {od ex : Nat} {mf : Nat → Nat} {s : Int32} {n : Nat} {f : Nat → Nat} (h0 : ¬ od = 0) (h1 : jdv s 4 = 0) (h2 : ¬ 0 < n) : jdd od ex mf (s, n, f) = (false, jdr s, n, f) := by rw [jdd, if_neg h0, if_pos h1, if_neg h2]
theorem jdd_m {od ex : Nat} {mf : Nat → Nat} {s : Int32} {n : Nat} {f : Nat → Nat} (h0 : ¬ od = 0) (h1 : ¬ jdv s 4 = 0) (h2 : jdv s 4 = 1) (h3 : jcm ex n (nI (jdv (jdr s) ex + 1)) = true) : jdd od ex mf (s, n, f) = (true, jdr (jdr s), n, fun j => jmul od mf (f j) (jdv (jdr s) ex + 1)) := by rw [jdd, if_neg h0, if_neg h1, if_pos h2, if_pos h3]
theorem jdd_m0 {od ex : Nat} {mf : Nat → Nat} {s : Int32} {n : Nat} {f : Nat → Nat} (h0 : ¬ od = 0) (h1 : ¬ jdv s 4 = 0) (h2 : jdv s 4 = 1) (h3 : jcm ex n (nI (jdv (jdr s) ex + 1)) = false) : jdd od ex mf (s, n, f) = (false, jdr (jdr s), n, f) := by rw [jdd, if_neg h0, if_neg h1, if_pos h2, if_neg (by rw [h3]; decide)]
theorem jdd_c {od ex : Nat} {mf : Nat → Nat} {s : Int32} {n : Nat} {f : Nat → Nat} (h0 : ¬ od = 0) (h1 : ¬ jdv s 4 = 0) (h2 : ¬ jdv s 4 = 1) (h3 : n < 12) : jdd od ex mf (s, n, f) = (true, jdr (jdr s), n + 1, va_up f n (jdv (jdr s) od)) := by rw [jdd, if_neg h0, if_neg h1, if_neg h2, if_pos h3]
theorem jdd_c0 {od ex : Nat} {mf : Nat → Nat} {s : Int32} {n : Nat} {f : Nat → Nat} (h0 : ¬ od = 0) (h1 : ¬ jdv s 4 = 0) (h2 : ¬ jdv s 4 = 1) (h3 : ¬ n < 12) : jdd od ex mf (s, n, f) = (false, jdr (jdr s), n, f) := by rw [jdd, if_neg h0, if_neg h1, if_neg h2, if_neg h3]
theorem jdv_lt {s : Int32} {n : Nat} (h : 0 < n) : jdv s n < n := by
  unfold jdv
  rw [if_neg (by omega)]
  exact Nat.mod_lt _ h
theorem jdd_ag {od ex : Nat} {mf : Nat → Nat} {q r : Int32 × Nat × (Nat → Nat)} (h : jdAg q r) : (jdd od ex mf q).1 = (jdd od ex mf r).1 ∧ jdAg (jdd od ex mf q).2 (jdd od ex mf r).2 := by
  obtain ⟨s, n, f⟩ := q
  obtain ⟨s', n', f'⟩ := r
  obtain ⟨h1, h2, h3⟩ := h
  simp only at h1 h2 h3
  subst h1; subst h2
  unfold jdd
  simp only
  split
  · exact ⟨rfl, rfl, rfl, h3⟩
  · split
    · split
      · refine ⟨rfl, rfl, rfl, fun j hj => ?_⟩
        have hj : j < n - 1 := hj
        show (if _ then f (j + 1) else f j) = if _ then f' (j + 1) else f' j
        rw [h3 j (by omega), h3 (j + 1) (by omega)]
      · exact ⟨rfl, rfl, rfl, h3⟩
    · split
      · split
        · exact ⟨rfl, rfl, rfl, fun j hj => by show jmul od mf (f j) _ = jmul od mf (f' j) _; rw [h3 j hj]⟩
        · exact ⟨rfl, rfl, rfl, h3⟩
      · split
        · refine ⟨rfl, rfl, rfl, fun j hj => ?_⟩
          have hj : j < n + 1 := hj
          show va_up f n _ j = va_up f' n _ j
          unfold va_up
          split
          · rfl
          · exact h3 j (by omega)
        · exact ⟨rfl, rfl, rfl, h3⟩
theorem jdd_ok {od ex : Nat} {mf af : Nat → Nat} (hT : jtab od mf af) {q : Int32 × Nat × (Nat → Nat)} (hn : q.2.1 ≤ 12) (hf : ∀ j, j < q.2.1 → q.2.2 j < 24) : (jdd od ex mf q).2.2.1 ≤ 12 ∧ ∀ j, j < (jdd od ex mf q).2.2.1 → (jdd od ex mf q).2.2.2 j < 24 := by
  obtain ⟨s, n, f⟩ := q
  simp only at hn hf
  have hT1 := hT.1
  unfold jdd
  simp only
  split
  · exact ⟨hn, hf⟩
  · split
    · split
      · refine ⟨by show n - 1 ≤ 12; omega, fun j hj => ?_⟩
        have hj : j < n - 1 := hj
        show (if _ then f (j + 1) else f j) < 24
        split
        · exact hf _ (by omega)
        · exact hf _ (by omega)
      · exact ⟨hn, hf⟩
    · split
      · split
        · exact ⟨hn, fun j hj => jmul_24 hT _ _⟩
        · exact ⟨hn, hf⟩
      · split
        · refine ⟨by show n + 1 ≤ 12; omega, fun j hj => ?_⟩
          have hj : j < n + 1 := hj
          show va_up f n _ j < 24
          unfold va_up
          split
          · have := jdv_lt (s := jdr s) (n := od) (by omega); omega
          · exact hf j (by omega)
        · exact ⟨hn, hf⟩
/-- so many deeds: how many were done, and what stands then -/
def jdn (od ex : Nat) (mf : Nat → Nat) (q : Int32 × Nat × (Nat → Nat)) : Nat → Nat × Int32 × Nat × (Nat → Nat)
  | 0 => (0, q)
  | i + 1 => (if (jdd od ex mf (jdn od ex mf q i).2).1 = true then (jdn od ex mf q i).1 + 1 else (jdn od ex mf q i).1, (jdd od ex mf (jdn od ex mf q i).2).2)
theorem jdn_le {od ex : Nat} {mf : Nat → Nat} {q : Int32 × Nat × (Nat → Nat)} : ∀ i, (jdn od ex mf q i).1 ≤ i
  | 0 => Nat.le_refl 0
  | i + 1 => by
    have := jdn_le (od := od) (ex := ex) (mf := mf) (q := q) i
    have h2 : (jdn od ex mf q (i + 1)).1 = if (jdd od ex mf (jdn od ex mf q i).2).1 = true then (jdn od ex mf q i).1 + 1 else (jdn od ex mf q i).1 := rfl
    rw [h2]
    split
    · exact Nat.succ_le_succ this
    · exact Nat.le_succ_of_le this
theorem jdn_ok {od ex : Nat} {mf af : Nat → Nat} (hT : jtab od mf af) {q : Int32 × Nat × (Nat → Nat)} (hn : q.2.1 ≤ 12) (hf : ∀ j, j < q.2.1 → q.2.2 j < 24) : ∀ i, (jdn od ex mf q i).2.2.1 ≤ 12 ∧ ∀ j, j < (jdn od ex mf q i).2.2.1 → (jdn od ex mf q i).2.2.2 j < 24
  | 0 => ⟨hn, hf⟩
  | i + 1 => jdd_ok hT (jdn_ok hT hn hf i).1 (jdn_ok hT hn hf i).2
theorem jRB.all {tf : Nat → Int32} {len : Nat} (hl : len ≤ 340) : ∀ (k i : Nat) (q : jRS), i + k = 301 → q.2.1.2 ≤ i → jRB q → jRB (jrAll (jbs tf) len k i q)
  | 0, _, _, _, _, h => h
  | k + 1, i, q, hi, hr, h => by
    unfold jrAll
    split
    · exact h
    · split
      · exact h
      · have h1 : jRB (jrRow (jbs tf) len i q).2 := h.row hl
        have h2 : (jrRow (jbs tf) len i q).2.2.1.2 = q.2.1.2 := jrRow_rows
        refine jRB.all hl k (i + 1) _ (by omega) ?_ ?_
        · split
          · show (jrRow (jbs tf) len i q).2.2.1.2 + 1 ≤ i + 1
            omega
          · show (jrRow (jbs tf) len i q).2.2.1.2 ≤ i + 1
            omega
        · split
          · exact ⟨h1.1, ⟨h1.2.1.1, by show (jrRow (jbs tf) len i q).2.2.1.2 + 1 < 2 ^ 20; omega⟩, h1.2.2⟩
          · exact h1
/-- what the reader answers -/
def jRes (tf : Nat → Int32) (tl : Nat) (q : jRS) : jRS := jrAll (jbs tf) tl 301 0 (jrTok (jbs tf) tl ((0, q.1.2.1, q.1.2.2.1, q.1.2.2.2), (0, 0), (0, 0, -1), (0, q.2.2.2.2)))
theorem jRes_b {tf : Nat → Int32} {tl : Nat} {q : jRS} (hl : tl ≤ 340) (h : jRB q) : jRB (jRes tf tl q) :=
  jRB.all hl 301 0 _ rfl (Nat.le_refl _) (jRB.tok hl ⟨⟨Nat.zero_le _, h.1.2⟩, ⟨Nat.two_pow_pos 15, Nat.two_pow_pos 20⟩, ⟨Nat.zero_lt_succ 9, Nat.zero_le _⟩, Nat.zero_le _⟩)
theorem jcutn_0 {n : Nat} : jcutn (nI 0) n = 0 := by
  have h : jcut (nI 0) n = true := decide_eq_true (by rw [nI_toInt (by omega)]; omega)
  unfold jcutn
  rw [if_pos h]
  exact nI_clamp (by omega)
theorem jat_congr {f f2 : Nat → Nat} {n : Nat} {w : Int32} (h : ∀ k, k < n → f k = f2 k) : jat f n w = jat f2 n w := by
  unfold jat
  cases hh : jhas w n with
  | false => rfl
  | true =>
    obtain ⟨k, hk, rfl⟩ := jhas_t hh
    have h9 : (nI k).toNatClampNeg < n := by
      have := of_decide_eq_true hh
      have h2 : ((nI k).toNatClampNeg : Int) = (nI k).toInt := by
        show (((nI k).toInt.toNat : Nat) : Int) = _
        omega
      omega
    rw [if_pos rfl, if_pos rfl, h _ h9]
theorem jhas_lt2 {w : Int32} {N : Nat} (hN : N < 2 ^ 30) (h0 : ¬ w < 0) (h : w < nI N) : jhas w N = true := by
  refine decide_eq_true ⟨j_nlt0 h0, ?_⟩
  rw [Int32.lt_iff_toInt_lt, nI_toInt (by omega)] at h
  omega
