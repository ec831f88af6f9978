abbrev jγ : Type := va_G × (Nat → ClassId)
def jT (γ : jγ) : List (ClassId × FieldType) := [(γ.2 0, .int), (γ.2 1, .byte), (γ.2 2, .boolean), (γ.2 3, .long), (γ.2 4, .array .int), (γ.2 5, .object "NoughtSums$Row"), (γ.2 6, .object "NoughtSums$Image")]
def jTT : List Cond := lw_tbl.filter goodWord
theorem jTT_lw {w : Cond} (h : w ∈ jTT) : w ∈ lw_tbl := (List.mem_filter.mp h).1
theorem jTT_good {w : Cond} (h : w ∈ jTT) : (w.onTables && w.keeps) = true ∨ ∃ ty, w = .arrayClass ty := good_of_word (List.mem_filter.mp h).2
theorem jin {w : Cond} (i : Nat) (h : tables_1[i]? = some w) (hg : goodWord w = true) : w ∈ jTT := List.mem_filter.mpr ⟨List.mem_append_right _ (List.mem_of_getElem? h), hg⟩
theorem jinP {w : Cond} (i : Nat) (h : (k2_sels lw_privs)[i]? = some w) (hg : goodWord w = true) : w ∈ jTT := List.mem_filter.mpr ⟨List.mem_append_left _ (List.mem_of_getElem? h), hg⟩
/-- the words of a method: its code, and all good words of the tables -/
def jw (y : MethodName) (b : ByteArray) (n : Nat) (r : Option FieldType) : List Cond := .code y b n r :: jTT
/-- what the tables say of a class whose objects the worlds hold -/
def jC (ci : Nat) (C : String) (T : u_T) (N : Nat) (ty : Nat → FieldType) : Prop := vwCl[ci]? = some (C, T, N) ∧ (∀ w ∈ u_ws C T N, w ∈ jTT) ∧ (∀ k, k < N → parseFieldDescriptor (T k).2.2.1 = some (ty k)) ∧ (∀ a, a < N → ∀ b, b < N → a ≠ b → (T a).2.1 ≠ (T b).2.1)
/-- what the tables say of a method: n its arguments without the receiver; st: is it static -/
def jY (y : MethodName) (b : ByteArray) (nl : Nat) (r : Option FieldType) (na : Nat) (st : Bool) : Prop := (Cond.code y b nl r ∈ jTT ∧ Cond.initialized y.cls ∈ jTT) ∧ (y.cls ≠ "java/lang/invoke/MethodHandle" ∧ y.cls ≠ "java/lang/invoke/VarHandle" ∧ (parseMethodDescriptor y.desc).map (fun d => d.parameters.length) = some na) ∧ (if st then Cond.static y ∈ jTT else Cond.instanceMethod y ∈ jTT ∧ Cond.selects y.cls y y ∈ jTT)
def jYI (y : MethodName) (b : ByteArray) (nl : Nat) (r : Option FieldType) (na : Nat) : Prop := (Cond.code y b nl r ∈ jTT ∧ Cond.initialized y.cls ∈ jTT) ∧ (y.cls ≠ "java/lang/invoke/MethodHandle" ∧ y.cls ≠ "java/lang/invoke/VarHandle" ∧ (parseMethodDescriptor y.desc).map (fun d => d.parameters.length) = some na) ∧ Cond.instanceMethod y ∈ jTT
