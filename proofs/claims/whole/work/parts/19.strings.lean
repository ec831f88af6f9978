/-- the char at k of the text i -/
def jch (i k : Nat) : Int32 := (jKb.getD i []).getD k 0 &&& 255
theorem jlen_eq : ∀ i, i < 4 → (jKb.map List.length).getD i 0 = (jKb.getD i []).length := by decide
theorem jlen_lt : ∀ i, i < 4 → (jKb.getD i []).length < 2 ^ 8 := by decide
theorem lm_X5_135 : Cond.methodLink RX5 135 yJ0_length_8abf5 ∈ jTT := jin 354 (by decide +kernel) rfl
theorem lm_X5_138 : Cond.methodLink RX5 138 yJ0_charAt_5068e ∈ jTT := jin 364 (by decide +kernel) rfl
theorem lm_J0_335 : Cond.methodLink RJ0 335 yJ0_coder_7d493 ∈ jTT := jin 358 (by decide +kernel) rfl
theorem lm_J0_492 : Cond.methodLink RJ0 492 yJ0_isLatin1_aae02 ∈ jTT := jin 368 (by decide +kernel) rfl
theorem lm_J0_495 : Cond.methodLink RJ0 495 yJ1_charAt_3b067 ∈ jTT := jin 372 (by decide +kernel) rfl
theorem lm_J0_1059 : Cond.methodLink RJ0 1059 yJ3_checkIndex_8e157 ∈ jTT := jin 380 (by decide +kernel) rfl
theorem lm_J1_9 : Cond.methodLink RJ1 9 yJ0_checkIndex_df160 ∈ jTT := jin 375 (by decide +kernel) rfl
theorem lf_J0_38 : Cond.fieldLink RJ0 38 "java/lang/String" "COMPACT_STRINGS" "Z" ∈ jTT := jin 362 (by decide +kernel) rfl
theorem lf_J0_9 : Cond.fieldLink RJ0 9 "java/lang/String" "value" "[B" ∈ jTT := jin 1491 (by decide +kernel) rfl
theorem lf_J0_15 : Cond.fieldLink RJ0 15 "java/lang/String" "coder" "B" ∈ jTT := jin 1492 (by decide +kernel) rfl
theorem lf_J0_1053 : Cond.fieldLink RJ0 1053 "jdk/internal/util/Preconditions" "SIOOBE_FORMATTER" "Ljava/util/function/BiFunction;" ∈ jTT := jin 378 (by decide +kernel) rfl
theorem jy_J0_length_8abf5 : jY yJ0_length_8abf5 cJ0_length_8abf5 1 (some .int) 0 false := ⟨⟨jin 357 (by decide +kernel) rfl, jin 14 (by decide +kernel) rfl⟩, by decide +kernel, ⟨jin 355 (by decide +kernel) rfl, jin 356 (by decide +kernel) rfl⟩⟩
theorem jy_J0_charAt_5068e : jY yJ0_charAt_5068e cJ0_charAt_5068e 2 (some .char) 1 false := ⟨⟨jin 367 (by decide +kernel) rfl, jin 14 (by decide +kernel) rfl⟩, by decide +kernel, ⟨jin 365 (by decide +kernel) rfl, jin 366 (by decide +kernel) rfl⟩⟩
theorem jy_J0_coder_7d493 : jY yJ0_coder_7d493 cJ0_coder_7d493 1 (some .byte) 0 false := ⟨⟨jin 361 (by decide +kernel) rfl, jin 14 (by decide +kernel) rfl⟩, by decide +kernel, ⟨jin 359 (by decide +kernel) rfl, jin 360 (by decide +kernel) rfl⟩⟩
theorem jy_J0_isLatin1_aae02 : jY yJ0_isLatin1_aae02 cJ0_isLatin1_aae02 1 (some .boolean) 0 false := ⟨⟨jin 371 (by decide +kernel) rfl, jin 14 (by decide +kernel) rfl⟩, by decide +kernel, ⟨jin 369 (by decide +kernel) rfl, jin 370 (by decide +kernel) rfl⟩⟩
theorem jy_J0_checkIndex_df160 : jY yJ0_checkIndex_df160 cJ0_checkIndex_df160 2 none 2 true := ⟨⟨jin 377 (by decide +kernel) rfl, jin 14 (by decide +kernel) rfl⟩, by decide +kernel, (jin 376 (by decide +kernel) rfl)⟩
theorem jy_J1_charAt_3b067 : jY yJ1_charAt_3b067 cJ1_charAt_3b067 2 (some .char) 2 true := ⟨⟨jin 374 (by decide +kernel) rfl, jin 15 (by decide +kernel) rfl⟩, by decide +kernel, (jin 373 (by decide +kernel) rfl)⟩
theorem jy_J3_checkIndex_8e157 : jY yJ3_checkIndex_8e157 cJ3_checkIndex_8e157 3 (some .int) 3 true := ⟨⟨jin 382 (by decide +kernel) rfl, jin 16 (by decide +kernel) rfl⟩, by decide +kernel, (jin 381 (by decide +kernel) rfl)⟩
section
variable {γ : jγ} {l : Launch} {x : jE} {ws : va_W} {lv : List (Option Value)} {st : List Value} {cs sl pc : Nat}
variable {rm : Room} {cc : ByteArray} {own : String} {ret : Option FieldType}

theorem J.gets (g : jG γ x rm cc own ret) {C n d : String} {v : Value} {ix : Nat} (hZ : va_Z C n d v (jA x) (jS x) (jS x).heap) (hw : Cond.fieldLink own ix C n d ∈ jTT) (hd : decode cc pc = .ok (.getstatic ix, 3)) (kk : J γ l x ws lv (v :: st) cs sl (pc + 3)) : J γ l x ws lv st cs sl pc := fun H locs ls hP hD hS hl0 => va_gets g.1 g.2.1 hZ hS g.2.2.2.1 (g.2.2.2.2.1 _ hw) (fun _ h => h) hd (kk H locs ls hP hD hS hl0)
theorem J.oget (g : jG γ x rm cc own ret) {o n d : String} {v : Value} {ix q : Nat} (hE : va_OF o n d v q (jA x) (jS x) (jS x).heap) (hw : Cond.fieldLink own ix o n d ∈ jTT) (hd : decode cc pc = .ok (.getfield ix, 3)) (kk : J γ l x ws lv (v :: st) cs sl (pc + 3)) : J γ l x ws lv (.ref q :: st) cs sl pc := fun H locs ls hP hD hS hl0 => vk_getf g.1 g.2.1 hE hS g.2.2.2.1 (g.2.2.2.2.1 _ hw) (fun _ h => h) hd (kk H locs ls hP hD hS hl0)
theorem J.otlen (g : jG γ x rm cc own ret) {ty : FieldType} {t N : Nat} {f : Nat → Value} (hT : va_T ty t N f (jA x) (jS x) (jS x).heap) (hd : decode cc pc = .ok (.arraylength, 1)) (kk : J γ l x ws lv (.int (nI N) :: st) cs sl (pc + 1)) : J γ l x ws lv (.ref t :: st) cs sl pc := fun H locs ls hP hD hS hl0 => va_tlen g.1 g.2.1 hT hS rfl hd (kk H locs ls hP hD hS hl0)
theorem J.otb (g : jG γ x rm cc own ret) {t N k : Nat} {f : Nat → Value} {v : Value} (hT : va_T .byte t N f (jA x) (jS x) (jS x).heap) (hk : k < N) (hN : N < 2 ^ 31) (hv : f k = v) (hd : decode cc pc = .ok (.baload, 1)) (kk : J γ l x ws lv (v :: st) cs sl (pc + 1)) : J γ l x ws lv (.int (nI k) :: .ref t :: st) cs sl pc := fun H locs ls hP hD hS hl0 => va_tb g.1 g.2.1 hT hS (vp_in_nI hk hN) (by rw [nI_clamp (by omega)]; exact hv) hd (kk H locs ls hP hD hS hl0)
theorem J.i2c (g : jG γ x rm cc own ret) {x9 v : Int32} (hd : decode cc pc = .ok (.i2c, 1)) (hv : (x9.toUInt32 % 65536).toInt32 = v) (k : J γ l x ws lv (.int v :: st) cs sl (pc + 1)) : J γ l x ws lv (.int x9 :: st) cs sl pc := fun H locs ls hP hD hS hl0 => lv_i2c g.1 g.2.1 hd hv (k H locs ls hP hD hS hl0)
theorem J.ldcS (g : jG γ x rm cc own ret) (i : Nat) {q : String × Nat × String} (hq : jKS[i]? = some q) (ho : q.1 = own) (hd : decode cc pc = .ok (.ldc q.2.1, 2)) (k : J γ l x ws lv (.ref (γ.2 (100 + i)) :: st) cs sl (pc + 2)) : J γ l x ws lv st cs sl pc := fun H locs ls hP hD hS hl0 => va_ldcS g.1 g.2.1 (by rw [ho]; exact g.2.2.2.1) (g.2.2.2.2.2.2.2.2.2.2.2.2.2.1 i q hq) hd (k H locs ls hP hD hS hl0)
variable {S : Type} {rt : S → Option Value} {post : S → Prop} {y : MethodName} {b : ByteArray} {nl : Nat} {r : Option FieldType} {r2 : Room} {As : List Value} {rest : List Value} {ix : Nat}
/-- a call on a text -/
theorem J.callT (g : jG γ x rm cc own ret) {i : Nat} (hi : i < 4) (hM : jM l γ y b nl r r2 (.ref (γ.2 (100 + i)) :: As) [] rt (fun _ : S => []) post) (hy : jY y b nl r As.length false) (hyc : y.cls = "java/lang/String") (hw : Cond.methodLink own ix y ∈ jTT) (hR : (r2.frames + 1 ≤ rm.frames ∧ 8 + (nl + 11) + r2.locals ≤ rm.locals) ∧ cs + r2.cells ≤ rm.cells ∧ sl + r2.slots ≤ rm.slots) (hrest : (rest.map fun v => v.category).sum ≤ 8) (hst : st = As.reverse ++ .ref (γ.2 (100 + i)) :: rest) (hd : decode cc pc = .ok (.invokevirtual ix, 3)) (kk : ∀ u : S, post u → J γ l x ws lv (jpush (rt u) rest) (cs + r2.cells) (sl + r2.slots) (pc + 3)) : J γ l x ws lv st cs sl pc := by
  have cb := j_callB g hy.1 hy.2.1 hw hR.1
  have ok : ∀ w ∈ jTT, w.before (ja x) (jS x) = true := g.2.2.2.2.1
  refine j_after g (As := (.ref (γ.2 (100 + i)) :: As)) (r2 := r2) (wc := []) (rt := rt) (ws1 := fun _ => []) (post := post) (rest := rest) (fun H locs ls hP hD hS hl0 => ?_) [] rfl (fun _ => rfl) (fun u hp => by rw [jput_same [] ws [] rfl, jpush_eq]; exact kk u hp)
  have hDc : va_D (fun _ => True) [] := (hD.sub [] rfl rfl).weaken (fun _ _ _ _ => trivial)
  have hC : ([] : List Nat).map (fun i => ws[i]?) = ([] : va_W).map some := rfl
  have hpre : ∀ U : State, U.heap = H → (jS x).WarmedH U.vm → va_Pc (.ref (γ.2 (100 + i)) :: As) (jPre γ [] H.size) ((.ref (γ.2 (100 + i)) :: As) : List Value).toArray U := fun U hU hW => ⟨rfl, by rw [hU], by rw [hU]; exact jsub hP [] hC, va_K.moved hW.alike g.2.2.2.2.2.1, hDc, by rw [hU]; exact ((g.2.2.2.2.2.2.2.2.2.2.kept (H1 := H) hS.2.1).narrow (va_free hD hS g.2.2.2.2.2.2.2.2.1 [] hC)).warm hW⟩
  exact va_runV (As := As) (rest := rest) ⟨g.1, g.2.1, g.2.2.1, g.2.2.2.1, g.2.2.2.2.1⟩ (hM H.size) ⟨cb, ok _ hy.2.2.1, ok _ hy.2.2.2⟩ ⟨jFB γ _ _ _, by rw [hyc]; exact vk_recv (N := 4) (adK := fun i => γ.2 (100 + i)) (i := i) g.2.2.2.2.2.2.2.2.2.2.2.2.1 hi hS, hpre⟩ rfl rfl hl0.2.1 hst (lv_room hrest) hd (by rw [g.2.2.2.2.2.2.2.2.2.1]; exact hR.2)
end
set_option maxHeartbeats 4000000 in
set_option maxRecDepth 100000 in
theorem c_J0_coder (l : Launch) (γ : jγ) (i : Nat) (hi : i < 4) : jM (S := Unit) l γ yJ0_coder_7d493 cJ0_coder_7d493 1 (some .byte) ({ frames := 0, cells := 0, slots := 0, locals := 0 } : Room) [.ref (γ.2 (100 + i))] [] (fun _ => some (.int 0)) (fun _ => []) (fun _ => True) := by
  refine jM.of [some (.ref (γ.2 (100 + i)))] rfl (Nat.le_of_ble_eq_true rfl) (by decide) ?_
  intro x g hE hin
  obtain ⟨hX1, hX2, hX3, hX4, hX5, r9, hX6⟩ := g.2.2.2.2.2.2.2.2.2.2
  refine J.gets g hX5 lf_J0_38 dJ0_coder_7d493_0 ?_
  refine J.if_eq g dJ0_coder_7d493_3 (tgt := 13) (by decide) (fun q => absurd q (by decide)) (fun _ => ?_)
  refine J.aload_n g dJ0_coder_7d493_6 rfl rfl ?_
  refine J.oget g (hX3.1 i hi).2.1 lf_J0_15 dJ0_coder_7d493_7 ?_
  refine J.goto g dJ0_coder_7d493_10 (tgt := 14) (by decide) ?_
  exact J.zret rfl g hE () rfl trivial rfl ⟨Nat.le_of_ble_eq_true rfl, Nat.le_of_ble_eq_true rfl⟩ dJ0_coder_7d493_14
set_option maxHeartbeats 4000000 in
set_option maxRecDepth 100000 in
theorem c_J0_isLatin1 (l : Launch) (γ : jγ) (i : Nat) (hi : i < 4) : jM (S := Unit) l γ yJ0_isLatin1_aae02 cJ0_isLatin1_aae02 1 (some .boolean) ({ frames := 0, cells := 0, slots := 0, locals := 0 } : Room) [.ref (γ.2 (100 + i))] [] (fun _ => some (.int (nI 1))) (fun _ => []) (fun _ => True) := by
  refine jM.of [some (.ref (γ.2 (100 + i)))] rfl (Nat.le_of_ble_eq_true rfl) (by decide) ?_
  intro x g hE hin
  obtain ⟨hX1, hX2, hX3, hX4, hX5, r9, hX6⟩ := g.2.2.2.2.2.2.2.2.2.2
  refine J.gets g hX5 lf_J0_38 dJ0_isLatin1_aae02_0 ?_
  refine J.if_eq g dJ0_isLatin1_aae02_3 (tgt := 17) (by decide) (fun q => absurd q (by decide)) (fun _ => ?_)
  refine J.aload_n g dJ0_isLatin1_aae02_6 rfl rfl ?_
  refine J.oget g (hX3.1 i hi).2.1 lf_J0_15 dJ0_isLatin1_aae02_7 ?_
  refine J.if_ne g dJ0_isLatin1_aae02_10 (tgt := 17) (by decide) (fun q => absurd rfl q) (fun _ => ?_)
  refine J.iconstN g 1 dJ0_isLatin1_aae02_13 ?_
  refine J.goto g dJ0_isLatin1_aae02_14 (tgt := 18) (by decide) ?_
  exact J.zret rfl g hE () rfl trivial rfl ⟨Nat.le_of_ble_eq_true rfl, Nat.le_of_ble_eq_true rfl⟩ dJ0_isLatin1_aae02_18
set_option maxHeartbeats 4000000 in
set_option maxRecDepth 100000 in
theorem c_J3_checkIndex (l : Launch) (γ : jγ) (k n : Nat) (v9 : Value) (hv : v9 = .null ∨ ∃ t : Nat, v9 = .ref t) (hk : k < n) (hn : n < 2 ^ 31) : jM (S := Unit) l γ yJ3_checkIndex_8e157 cJ3_checkIndex_8e157 3 (some .int) ({ frames := 0, cells := 0, slots := 0, locals := 0 } : Room) [.int (nI k), .int (nI n), v9] [] (fun _ => some (.int (nI k))) (fun _ => []) (fun _ => True) := by
  rcases hv with rfl | ⟨q, rfl⟩
  · refine jM.of [some (.int (nI k)), some (.int (nI n)), some .null] rfl (Nat.le_of_ble_eq_true rfl) (by decide) ?_
    intro x g hE hin
    refine J.iload_n g dJ3_checkIndex_8e157_0 rfl rfl ?_
    refine J.if_ltN g dJ3_checkIndex_8e157_1 (tgt := 9) (by decide) (by omega) ?_
    refine J.iload_n g dJ3_checkIndex_8e157_4 rfl rfl ?_
    refine J.iload_n g dJ3_checkIndex_8e157_5 rfl rfl ?_
    refine J.icmp_ltN g dJ3_checkIndex_8e157_6 (tgt := 16) (by decide) (by omega) (by omega) (fun _ => ?_) (fun c => absurd c (by omega))
    refine J.iload_n g dJ3_checkIndex_8e157_16 rfl rfl ?_
    exact J.iret g hE () rfl trivial rfl ⟨Nat.le_of_ble_eq_true rfl, Nat.le_of_ble_eq_true rfl⟩ dJ3_checkIndex_8e157_17
  · refine jM.of [some (.int (nI k)), some (.int (nI n)), some (.ref q)] rfl (Nat.le_of_ble_eq_true rfl) (by decide) ?_
    intro x g hE hin
    refine J.iload_n g dJ3_checkIndex_8e157_0 rfl rfl ?_
    refine J.if_ltN g dJ3_checkIndex_8e157_1 (tgt := 9) (by decide) (by omega) ?_
    refine J.iload_n g dJ3_checkIndex_8e157_4 rfl rfl ?_
    refine J.iload_n g dJ3_checkIndex_8e157_5 rfl rfl ?_
    refine J.icmp_ltN g dJ3_checkIndex_8e157_6 (tgt := 16) (by decide) (by omega) (by omega) (fun _ => ?_) (fun c => absurd c (by omega))
    refine J.iload_n g dJ3_checkIndex_8e157_16 rfl rfl ?_
    exact J.iret g hE () rfl trivial rfl ⟨Nat.le_of_ble_eq_true rfl, Nat.le_of_ble_eq_true rfl⟩ dJ3_checkIndex_8e157_17
set_option maxHeartbeats 4000000 in
set_option maxRecDepth 100000 in
theorem c_J0_checkIndex (l : Launch) (γ : jγ) (k n : Nat) (hk : k < n) (hn : n < 2 ^ 31) : jM (S := Unit) l γ yJ0_checkIndex_df160 cJ0_checkIndex_df160 2 none ({ frames := 1, cells := 0, slots := 0, locals := 22 } : Room) [.int (nI k), .int (nI n)] [] (fun _ => none) (fun _ => []) (fun _ => True) := by
  refine jM.of [some (.int (nI k)), some (.int (nI n))] rfl (Nat.le_of_ble_eq_true rfl) (by decide) ?_
  intro x g hE hin
  obtain ⟨hX1, hX2, hX3, hX4, hX5, r9, hv9, hX6⟩ := g.2.2.2.2.2.2.2.2.2.2
  refine J.iload_n g dJ0_checkIndex_df160_0 rfl rfl ?_
  refine J.iload_n g dJ0_checkIndex_df160_1 rfl rfl ?_
  refine J.gets g hX6 lf_J0_1053 dJ0_checkIndex_df160_2 ?_
  refine J.callS0 g (c_J3_checkIndex l γ k n r9 hv9 hk hn) jy_J3_checkIndex_8e157 lm_J0_1059 ⟨⟨Nat.le_of_ble_eq_true rfl, Nat.le_of_ble_eq_true rfl⟩, Nat.le_of_ble_eq_true rfl, Nat.le_of_ble_eq_true rfl⟩ (Nat.le_of_ble_eq_true rfl) rfl [] rfl rfl dJ0_checkIndex_df160_5 ?_
  intro _ _
  dsimp only [jpush]
  refine J.pop g dJ0_checkIndex_df160_8 rfl ?_
  exact J.vret g hE () rfl trivial rfl ⟨Nat.le_of_ble_eq_true rfl, Nat.le_of_ble_eq_true rfl⟩ dJ0_checkIndex_df160_9
set_option maxHeartbeats 4000000 in
set_option maxRecDepth 100000 in
theorem c_J1_charAt (l : Launch) (γ : jγ) (i k : Nat) (hi : i < 4) (hk : k < (jKb.getD i []).length) : jM (S := Unit) l γ yJ1_charAt_3b067 cJ1_charAt_3b067 2 (some .char) ({ frames := 2, cells := 0, slots := 0, locals := 43 } : Room) [.ref (γ.2 (200 + i)), .int (nI k)] [] (fun _ => some (.int (jch i k))) (fun _ => []) (fun _ => True) := by
  refine jM.of [some (.ref (γ.2 (200 + i))), some (.int (nI k))] rfl (Nat.le_of_ble_eq_true rfl) (by decide) ?_
  intro x g hE hin
  obtain ⟨hX1, hX2, hX3, hX4, hX5, r9, hX6⟩ := g.2.2.2.2.2.2.2.2.2.2
  have hT := (hX3.1 i hi).2.2.2
  rw [jlen_eq i hi] at hT
  have hL := jlen_lt i hi
  refine J.iload_n g dJ1_charAt_3b067_0 rfl rfl ?_
  refine J.aload_n g dJ1_charAt_3b067_1 rfl rfl ?_
  refine J.otlen g hT dJ1_charAt_3b067_2 ?_
  refine J.callS0 g (c_J0_checkIndex l γ k (jKb.getD i []).length hk (by omega)) jy_J0_checkIndex_df160 lm_J1_9 ⟨⟨Nat.le_of_ble_eq_true rfl, Nat.le_of_ble_eq_true rfl⟩, Nat.le_of_ble_eq_true rfl, Nat.le_of_ble_eq_true rfl⟩ (Nat.le_of_ble_eq_true rfl) rfl [] rfl rfl dJ1_charAt_3b067_3 ?_
  intro _ _
  dsimp only [jpush]
  refine J.aload_n g dJ1_charAt_3b067_6 rfl rfl ?_
  refine J.iload_n g dJ1_charAt_3b067_7 rfl rfl ?_
  refine J.otb g hT hk (by omega) rfl dJ1_charAt_3b067_8 ?_
  refine J.sipush (v := 255) g dJ1_charAt_3b067_9 (by decide +kernel) ?_
  refine J.iand g dJ1_charAt_3b067_12 ?_
  refine J.i2c g dJ1_charAt_3b067_13 (sc_c2 _) ?_
  exact J.zret (sc_nar _) g hE () rfl trivial rfl ⟨Nat.le_of_ble_eq_true rfl, Nat.le_of_ble_eq_true rfl⟩ dJ1_charAt_3b067_14
set_option maxHeartbeats 4000000 in
set_option maxRecDepth 100000 in
theorem c_J0_charAt (l : Launch) (γ : jγ) (i k : Nat) (hi : i < 4) (hk : k < (jKb.getD i []).length) : jM (S := Unit) l γ yJ0_charAt_5068e cJ0_charAt_5068e 2 (some .char) ({ frames := 3, cells := 0, slots := 0, locals := 64 } : Room) [.ref (γ.2 (100 + i)), .int (nI k)] [] (fun _ => some (.int (jch i k))) (fun _ => []) (fun _ => True) := by
  refine jM.of [some (.ref (γ.2 (100 + i))), some (.int (nI k))] rfl (Nat.le_of_ble_eq_true rfl) (by decide) ?_
  intro x g hE hin
  obtain ⟨hX1, hX2, hX3, hX4, hX5, r9, hX6⟩ := g.2.2.2.2.2.2.2.2.2.2
  refine J.aload_n g dJ0_charAt_5068e_0 rfl rfl ?_
  refine J.callT g hi (c_J0_isLatin1 l γ i hi) jy_J0_isLatin1_aae02 rfl lm_J0_492 ⟨⟨Nat.le_of_ble_eq_true rfl, Nat.le_of_ble_eq_true rfl⟩, Nat.le_of_ble_eq_true rfl, Nat.le_of_ble_eq_true rfl⟩ (Nat.le_of_ble_eq_true rfl) rfl dJ0_charAt_5068e_1 ?_
  intro _ _
  dsimp only [jpush]
  refine J.if_eqN g dJ0_charAt_5068e_4 (tgt := 16) (by decide) (by omega) (fun c => absurd c (by omega)) (fun _ => ?_)
  refine J.aload_n g dJ0_charAt_5068e_7 rfl rfl ?_
  refine J.oget g (hX3.1 i hi).2.2.1 lf_J0_9 dJ0_charAt_5068e_8 ?_
  refine J.iload_n g dJ0_charAt_5068e_11 rfl rfl ?_
  refine J.callS0 g (c_J1_charAt l γ i k hi hk) jy_J1_charAt_3b067 lm_J0_495 ⟨⟨Nat.le_of_ble_eq_true rfl, Nat.le_of_ble_eq_true rfl⟩, Nat.le_of_ble_eq_true rfl, Nat.le_of_ble_eq_true rfl⟩ (Nat.le_of_ble_eq_true rfl) rfl [] rfl rfl dJ0_charAt_5068e_12 ?_
  intro _ _
  dsimp only [jpush]
  exact J.zret (sc_nar _) g hE () rfl trivial rfl ⟨Nat.le_of_ble_eq_true rfl, Nat.le_of_ble_eq_true rfl⟩ dJ0_charAt_5068e_15
set_option maxHeartbeats 4000000 in
set_option maxRecDepth 100000 in
theorem c_J0_length (l : Launch) (γ : jγ) (i : Nat) (hi : i < 4) : jM (S := Unit) l γ yJ0_length_8abf5 cJ0_length_8abf5 1 (some .int) ({ frames := 1, cells := 0, slots := 0, locals := 20 } : Room) [.ref (γ.2 (100 + i))] [] (fun _ => some (.int (nI (jKb.getD i []).length))) (fun _ => []) (fun _ => True) := by
  refine jM.of [some (.ref (γ.2 (100 + i)))] rfl (Nat.le_of_ble_eq_true rfl) (by decide) ?_
  intro x g hE hin
  obtain ⟨hX1, hX2, hX3, hX4, hX5, r9, hX6⟩ := g.2.2.2.2.2.2.2.2.2.2
  have hT := (hX3.1 i hi).2.2.2
  rw [jlen_eq i hi] at hT
  have hL := jlen_lt i hi
  refine J.aload_n g dJ0_length_8abf5_0 rfl rfl ?_
  refine J.oget g (hX3.1 i hi).2.2.1 lf_J0_9 dJ0_length_8abf5_1 ?_
  refine J.otlen g hT dJ0_length_8abf5_4 ?_
  refine J.aload_n g dJ0_length_8abf5_5 rfl rfl ?_
  refine J.callT g hi (c_J0_coder l γ i hi) jy_J0_coder_7d493 rfl lm_J0_335 ⟨⟨Nat.le_of_ble_eq_true rfl, Nat.le_of_ble_eq_true rfl⟩, Nat.le_of_ble_eq_true rfl, Nat.le_of_ble_eq_true rfl⟩ (Nat.le_of_ble_eq_true rfl) rfl dJ0_length_8abf5_6 ?_
  intro _ _
  dsimp only [jpush]
  refine J.ishr' g dJ0_length_8abf5_9 (sc_shr0 (by omega)) ?_
  exact J.iret g hE () rfl trivial rfl ⟨Nat.le_of_ble_eq_true rfl, Nat.le_of_ble_eq_true rfl⟩ dJ0_length_8abf5_10
