theorem jrows13 {γ : jγ} {ad : Nat → Nat} {m : Nat} {M : Nat → Nat → Nat} : jrows γ ad 13 m M = [(ad 0, .inl (γ.2 0, m, .inl (fun j => nI (M 0 j)))), (ad 1, .inl (γ.2 0, m, .inl (fun j => nI (M 1 j)))), (ad 2, .inl (γ.2 0, m, .inl (fun j => nI (M 2 j)))), (ad 3, .inl (γ.2 0, m, .inl (fun j => nI (M 3 j)))), (ad 4, .inl (γ.2 0, m, .inl (fun j => nI (M 4 j)))), (ad 5, .inl (γ.2 0, m, .inl (fun j => nI (M 5 j)))), (ad 6, .inl (γ.2 0, m, .inl (fun j => nI (M 6 j)))), (ad 7, .inl (γ.2 0, m, .inl (fun j => nI (M 7 j)))), (ad 8, .inl (γ.2 0, m, .inl (fun j => nI (M 8 j)))), (ad 9, .inl (γ.2 0, m, .inl (fun j => nI (M 9 j)))), (ad 10, .inl (γ.2 0, m, .inl (fun j => nI (M 10 j)))), (ad 11, .inl (γ.2 0, m, .inl (fun j => nI (M 11 j)))), (ad 12, .inl (γ.2 0, m, .inl (fun j => nI (M 12 j))))] := rfl

set_option maxHeartbeats 8000000 in
set_option maxRecDepth 100000 in
theorem lc_feed {l : Launch} {γ : jγ} {x : jE} {ca ma : Nat → Nat} {oa b L i cs sl : Nat} {xs : Nat → Int32} {a1 a2 a3 a4 a5 : Int32} (g : jG γ x ({ frames := 2048, cells := 601024, slots := 7293034, locals := 84000 } : Room) code RL (some .boolean)) (hX : jScr x b L xs) (hL : L ≤ 3072) (hi : i + 6 ≤ L) (hcs : cs + 1 ≤ 601024) (hsl : sl + 6 ≤ 7293034) (h1 : xs (i + 1) = a1) (h2 : xs (i + 2) = a2) (h3 : xs (i + 3) = a3) (h4 : xs (i + 4) = a4) (h5 : xs (i + 5) = a5) {dsd : Int32} {tl : Nat} {tf : Nat → Int32} {q : jRS} {cd pt od ex : Nat} {mf af : Nat → Nat} {n : Nat} {f : Nat → Nat} {trn : Nat} {trf : Nat → Nat} {oon : Nat} {oof : Nat → Nat} {nx pl : Nat} {ln : Nat → Nat} {rf : Nat → Nat → Nat} {ic il : Nat → Nat} {ik : Nat → Bool} {iff : Nat → Nat → Nat} {pn : Nat} {M W : Nat → Nat → Nat} {s0 s1 s2 s3 : Nat → Nat} {sgc wh : Nat} {m0 m1 m2 : Nat → Nat} {rn : Nat} {rfp : Nat → Nat} {sg : Nat} {C : Nat → Nat} {gl : Nat} {gf : Nat → Nat} {fl : Nat} {ff : Nat → Nat} {mth mfw mse : Int32} {mwd : Int64} {mtd msz mto mfr mso mnu mfa mpl mro msm mln : Nat} {t w r9 KF SS bf lv9 : Nat → Nat} {mik : Nat → Bool} {su : Nat → Nat} {be : Nat → Bool} {fe my : Nat → Int32} {O9 : Nat → Nat} {S9 : Nat → Bool} {LF TF C9 rn9 rb TB : Nat → Nat} {o9 : Nat → Int64} (hR : lR tl tf q cd pt od ex mf af n f nx pl ln rf ic il ik iff sgc wh m0 m1 m2 rn rfp sg C fl ff mfw mtd mfa msm t w KF SS mik)
    (K : ∀ {dsd : Int32} {tl : Nat} {tf : Nat → Int32} {q : jRS} {cd pt od ex : Nat} {mf af : Nat → Nat} {n : Nat} {f : Nat → Nat} {trn : Nat} {trf : Nat → Nat} {oon : Nat} {oof : Nat → Nat} {nx pl : Nat} {ln : Nat → Nat} {rf : Nat → Nat → Nat} {ic il : Nat → Nat} {ik : Nat → Bool} {iff : Nat → Nat → Nat} {pn : Nat} {M W : Nat → Nat → Nat} {s0 s1 s2 s3 : Nat → Nat} {sgc wh : Nat} {m0 m1 m2 : Nat → Nat} {rn : Nat} {rfp : Nat → Nat} {sg : Nat} {C : Nat → Nat} {gl : Nat} {gf : Nat → Nat} {fl : Nat} {ff : Nat → Nat} {mth mfw mse : Int32} {mwd : Int64} {mtd msz mto mfr mso mnu mfa mpl mro msm mln : Nat} {t w r9 KF SS bf lv9 : Nat → Nat} {mik : Nat → Bool} {su : Nat → Nat} {be : Nat → Bool} {fe my : Nat → Int32} {O9 : Nat → Nat} {S9 : Nat → Bool} {LF TF C9 rn9 rb TB : Nat → Nat} {o9 : Nat → Int64}, lR tl tf q cd pt od ex mf af n f nx pl ln rf ic il ik iff sgc wh m0 m1 m2 rn rfp sg C fl ff mfw mtd mfa msm t w KF SS mik → J γ l x (lW γ ca ma oa dsd tl tf q cd pt od ex mf af n f trn trf oon oof nx pl ln rf ic il ik iff pn M W s0 s1 s2 s3 sgc wh m0 m1 m2 rn rfp sg C gl gf fl ff mth mfw mse mwd mtd msz mto mfr mso mnu mfa mpl mro msm mln t w r9 KF SS bf lv9 mik su be fe my O9 S9 LF TF C9 rn9 rb TB o9) [some (.ref b), some (.ref (ca 0)), some (.ref (ma 0)), some (.ref oa), some (.int (nI i)), none, none] [] (cs + 1) (sl + 6) 1075) : J γ l x (lW γ ca ma oa dsd tl tf q cd pt od ex mf af n f trn trf oon oof nx pl ln rf ic il ik iff pn M W s0 s1 s2 s3 sgc wh m0 m1 m2 rn rfp sg C gl gf fl ff mth mfw mse mwd mtd msz mto mfr mso mnu mfa mpl mro msm mln t w r9 KF SS bf lv9 mik su be fe my O9 S9 LF TF C9 rn9 rb TB o9) [some (.ref b), some (.ref (ca 0)), some (.ref (ma 0)), some (.ref oa), some (.int (nI i)), none, none] [] cs sl 184 := by
  obtain ⟨⟨htl, ht, hmtd⟩, ⟨hq, hmfa, hmfw⟩, hG, hI, ⟨hnx, hpl, hln, hpR, hmsm⟩, ⟨hmik, him⟩, ⟨hsgc, hPB, hPf, hPV⟩, hsg, hMV⟩ := id hR
  subst ht
  obtain rfl : tl = mtd := hmtd.symm
  subst hmfa
  subst hmfw
  obtain rfl : pl = msm := hmsm.symm
  obtain rfl : ik = mik := hmik.symm
  obtain ⟨hcd, hpt, hod, hex, hmfe, hafe⟩ := id hG
  subst hpt
  subst hod
  subst hex
  have hT := hG.tab
  have hn := hI.2.2.2.2.1
  have hfo := hI.2.2.2.2.2.2
  have hsm := g_small cd hcd
  have hf : ∀ j, j < n → f j < 24 := fun j hj => Nat.lt_of_lt_of_le (hfo j hj) hsm.2.1
  have hJ := jpl_cd hG
  have hO := jop_cd hG
  have hinv : ∀ a, a < god cd → ∀ c, c < god cd → jpl (god cd) mf (jpl (god cd) mf c a) (jop (god cd) af a) = c := fun a ha c hc => by rw [hJ, hO]; exact gP_can hcd ha hc
  have hcs0 : cs ≤ 601024 := by omega
  have hsl0 : sl ≤ 7293034 := by omega
  dsimp only [lW]
  refine J.aload_n g dL_law_184 rfl rfl ?_
  refine J.aload_n g dL_law_185 rfl rfl ?_
  refine J.iload g dL_law_186 rfl ?_
  refine J.iconstN g 1 dL_law_188 ?_
  refine J.iaddN g dL_law_189 ?_
  refine J.sld g hX (k := i + 1) (by omega) (by omega) h1 dL_law_190 ?_
  refine J.aload_n g dL_law_191 rfl rfl ?_
  refine J.iload g dL_law_192 rfl ?_
  refine J.iconstN g 2 dL_law_194 ?_
  refine J.iaddN g dL_law_195 ?_
  refine J.sld g hX (k := i + 2) (by omega) (by omega) h2 dL_law_196 ?_
  refine J.aload_n g dL_law_197 rfl rfl ?_
  refine J.iload g dL_law_198 rfl ?_
  refine J.iconstN g 3 dL_law_200 ?_
  refine J.iaddN g dL_law_201 ?_
  refine J.sld g hX (k := i + 3) (by omega) (by omega) h3 dL_law_202 ?_
  refine J.aload_n g dL_law_203 rfl rfl ?_
  refine J.iload g dL_law_204 rfl ?_
  refine J.iconstN g 4 dL_law_206 ?_
  refine J.iaddN g dL_law_207 ?_
  refine J.sld g hX (k := i + 4) (by omega) (by omega) h4 dL_law_208 ?_
  refine J.aload_n g dL_law_209 rfl rfl ?_
  refine J.iload g dL_law_210 rfl ?_
  refine J.iconstN g 5 dL_law_212 ?_
  refine J.iaddN g dL_law_213 ?_
  refine J.sld g hX (k := i + 5) (by omega) (by omega) h5 dL_law_214 ?_
  refine J.callV g (c_X10_feed l γ _ _ _ _ _ _ _ _ _ _ _ _ _ _ _ _ _ _ _ _ _ _ htl) jy_X10_feed lm_L_19 (q0 := 0) rfl jX10.1 ⟨⟨Nat.le_of_ble_eq_true rfl, Nat.le_of_ble_eq_true rfl⟩, hcs0, hsl0⟩ (Nat.le_of_ble_eq_true rfl) rfl [0, 2, 3] rfl (fun _ => rfl) rfl dL_law_215 ?_
  intro u_215 h_215
  dsimp only [jput, List.set_cons_zero, List.set_cons_succ, Option.toList, List.append, List.cons_append, List.nil_append, List.append_nil]
  refine J.aload_n g dL_law_218 rfl rfl ?_
  refine J.aload_n g dL_law_219 rfl rfl ?_
  refine J.iload g dL_law_220 rfl ?_
  refine J.iconstN g 1 dL_law_222 ?_
  refine J.iaddN g dL_law_223 ?_
  refine J.sld g hX (k := i + 1) (by omega) (by omega) h1 dL_law_224 ?_
  refine J.aload_n g dL_law_225 rfl rfl ?_
  refine J.iload g dL_law_226 rfl ?_
  refine J.iconstN g 2 dL_law_228 ?_
  refine J.iaddN g dL_law_229 ?_
  refine J.sld g hX (k := i + 2) (by omega) (by omega) h2 dL_law_230 ?_
  refine J.aload_n g dL_law_231 rfl rfl ?_
  refine J.iload g dL_law_232 rfl ?_
  refine J.iconstN g 3 dL_law_234 ?_
  refine J.iaddN g dL_law_235 ?_
  refine J.sld g hX (k := i + 3) (by omega) (by omega) h3 dL_law_236 ?_
  refine J.aload_n g dL_law_237 rfl rfl ?_
  refine J.iload g dL_law_238 rfl ?_
  refine J.iconstN g 4 dL_law_240 ?_
  refine J.iaddN g dL_law_241 ?_
  refine J.sld g hX (k := i + 4) (by omega) (by omega) h4 dL_law_242 ?_
  refine J.aload_n g dL_law_243 rfl rfl ?_
  refine J.iload g dL_law_244 rfl ?_
  refine J.iconstN g 5 dL_law_246 ?_
  refine J.iaddN g dL_law_247 ?_
  refine J.sld g hX (k := i + 5) (by omega) (by omega) h5 dL_law_248 ?_
  refine J.callV g (c_X11_feed l γ _ _ _ _ _ _ _ _ _ _ _ _ _ _ _ _ _ _ _ _ _ _ _ _ _ _ _ _ _ _ _ _ _ _ _ _ _ _ _ _ _ _ htl) jy_X11_feed lm_L_23 (q0 := 86) rfl jX11.1 ⟨⟨Nat.le_of_ble_eq_true rfl, Nat.le_of_ble_eq_true rfl⟩, hcs0, hsl0⟩ (Nat.le_of_ble_eq_true rfl) rfl [86, 87] rfl (fun _ => rfl) rfl dL_law_249 ?_
  intro u_249 h_249
  dsimp only [jput, List.set_cons_zero, List.set_cons_succ, Option.toList, List.append, List.cons_append, List.nil_append, List.append_nil]
  refine J.icmp_eq g dL_law_252 (tgt := 1075) (by decide) (fun c_252 => ?_) (fun c_252 => (c_252 (rfl)).elim)
  exact J.widen (Nat.le_add_right cs 1) (Nat.le_add_right sl 6) (K (⟨⟨by split <;> omega, feed_eq h_215 h_249, rfl⟩, ⟨hq, rfl, rfl⟩, hG, hI, ⟨hnx, hpl, hln, hpR, rfl⟩, ⟨rfl, him⟩, ⟨hsgc, hPB, hPf, hPV⟩, ⟨hsg, hMV⟩⟩))
set_option maxHeartbeats 8000000 in
set_option maxRecDepth 100000 in
theorem lc_end {l : Launch} {γ : jγ} {x : jE} {ca ma : Nat → Nat} {oa b L i cs sl : Nat} {xs : Nat → Int32} {a1 : Int32} (g : jG γ x ({ frames := 2048, cells := 601024, slots := 7293034, locals := 84000 } : Room) code RL (some .boolean)) (hX : jScr x b L xs) (hL : L ≤ 3072) (hi : i + 6 ≤ L) (hcs : cs + 1 ≤ 601024) (hsl : sl + 6 ≤ 7293034) (h1 : xs (i + 1) = a1) {dsd : Int32} {tl : Nat} {tf : Nat → Int32} {q : jRS} {cd pt od ex : Nat} {mf af : Nat → Nat} {n : Nat} {f : Nat → Nat} {trn : Nat} {trf : Nat → Nat} {oon : Nat} {oof : Nat → Nat} {nx pl : Nat} {ln : Nat → Nat} {rf : Nat → Nat → Nat} {ic il : Nat → Nat} {ik : Nat → Bool} {iff : Nat → Nat → Nat} {pn : Nat} {M W : Nat → Nat → Nat} {s0 s1 s2 s3 : Nat → Nat} {sgc wh : Nat} {m0 m1 m2 : Nat → Nat} {rn : Nat} {rfp : Nat → Nat} {sg : Nat} {C : Nat → Nat} {gl : Nat} {gf : Nat → Nat} {fl : Nat} {ff : Nat → Nat} {mth mfw mse : Int32} {mwd : Int64} {mtd msz mto mfr mso mnu mfa mpl mro msm mln : Nat} {t w r9 KF SS bf lv9 : Nat → Nat} {mik : Nat → Bool} {su : Nat → Nat} {be : Nat → Bool} {fe my : Nat → Int32} {O9 : Nat → Nat} {S9 : Nat → Bool} {LF TF C9 rn9 rb TB : Nat → Nat} {o9 : Nat → Int64} (hR : lR tl tf q cd pt od ex mf af n f nx pl ln rf ic il ik iff sgc wh m0 m1 m2 rn rfp sg C fl ff mfw mtd mfa msm t w KF SS mik)
    (K : ∀ {dsd : Int32} {tl : Nat} {tf : Nat → Int32} {q : jRS} {cd pt od ex : Nat} {mf af : Nat → Nat} {n : Nat} {f : Nat → Nat} {trn : Nat} {trf : Nat → Nat} {oon : Nat} {oof : Nat → Nat} {nx pl : Nat} {ln : Nat → Nat} {rf : Nat → Nat → Nat} {ic il : Nat → Nat} {ik : Nat → Bool} {iff : Nat → Nat → Nat} {pn : Nat} {M W : Nat → Nat → Nat} {s0 s1 s2 s3 : Nat → Nat} {sgc wh : Nat} {m0 m1 m2 : Nat → Nat} {rn : Nat} {rfp : Nat → Nat} {sg : Nat} {C : Nat → Nat} {gl : Nat} {gf : Nat → Nat} {fl : Nat} {ff : Nat → Nat} {mth mfw mse : Int32} {mwd : Int64} {mtd msz mto mfr mso mnu mfa mpl mro msm mln : Nat} {t w r9 KF SS bf lv9 : Nat → Nat} {mik : Nat → Bool} {su : Nat → Nat} {be : Nat → Bool} {fe my : Nat → Int32} {O9 : Nat → Nat} {S9 : Nat → Bool} {LF TF C9 rn9 rb TB : Nat → Nat} {o9 : Nat → Int64}, lR tl tf q cd pt od ex mf af n f nx pl ln rf ic il ik iff sgc wh m0 m1 m2 rn rfp sg C fl ff mfw mtd mfa msm t w KF SS mik → J γ l x (lW γ ca ma oa dsd tl tf q cd pt od ex mf af n f trn trf oon oof nx pl ln rf ic il ik iff pn M W s0 s1 s2 s3 sgc wh m0 m1 m2 rn rfp sg C gl gf fl ff mth mfw mse mwd mtd msz mto mfr mso mnu mfa mpl mro msm mln t w r9 KF SS bf lv9 mik su be fe my O9 S9 LF TF C9 rn9 rb TB o9) [some (.ref b), some (.ref (ca 0)), some (.ref (ma 0)), some (.ref oa), some (.int (nI i)), none, none] [] (cs + 1) (sl + 6) 1075) : J γ l x (lW γ ca ma oa dsd tl tf q cd pt od ex mf af n f trn trf oon oof nx pl ln rf ic il ik iff pn M W s0 s1 s2 s3 sgc wh m0 m1 m2 rn rfp sg C gl gf fl ff mth mfw mse mwd mtd msz mto mfr mso mnu mfa mpl mro msm mln t w r9 KF SS bf lv9 mik su be fe my O9 S9 LF TF C9 rn9 rb TB o9) [some (.ref b), some (.ref (ca 0)), some (.ref (ma 0)), some (.ref oa), some (.int (nI i)), none, none] [] cs sl 257 := by
  obtain ⟨⟨htl, ht, hmtd⟩, ⟨hq, hmfa, hmfw⟩, hG, hI, ⟨hnx, hpl, hln, hpR, hmsm⟩, ⟨hmik, him⟩, ⟨hsgc, hPB, hPf, hPV⟩, hsg, hMV⟩ := id hR
  subst ht
  obtain rfl : tl = mtd := hmtd.symm
  subst hmfa
  subst hmfw
  obtain rfl : pl = msm := hmsm.symm
  obtain rfl : ik = mik := hmik.symm
  obtain ⟨hcd, hpt, hod, hex, hmfe, hafe⟩ := id hG
  subst hpt
  subst hod
  subst hex
  have hT := hG.tab
  have hn := hI.2.2.2.2.1
  have hfo := hI.2.2.2.2.2.2
  have hsm := g_small cd hcd
  have hf : ∀ j, j < n → f j < 24 := fun j hj => Nat.lt_of_lt_of_le (hfo j hj) hsm.2.1
  have hJ := jpl_cd hG
  have hO := jop_cd hG
  have hinv : ∀ a, a < god cd → ∀ c, c < god cd → jpl (god cd) mf (jpl (god cd) mf c a) (jop (god cd) af a) = c := fun a ha c hc => by rw [hJ, hO]; exact gP_can hcd ha hc
  have hcs0 : cs ≤ 601024 := by omega
  have hsl0 : sl ≤ 7293034 := by omega
  dsimp only [lW]
  refine J.aload_n g dL_law_257 rfl rfl ?_
  refine J.aload_n g dL_law_258 rfl rfl ?_
  refine J.iload g dL_law_259 rfl ?_
  refine J.iconstN g 1 dL_law_261 ?_
  refine J.iaddN g dL_law_262 ?_
  refine J.sld g hX (k := i + 1) (by omega) (by omega) h1 dL_law_263 ?_
  refine J.callV g (c_X10_end l γ _ _ _ _ _ _ _ _ _ _ _ _ _ _ _ _ _ _ htl) jy_X10_end lm_L_24 (q0 := 0) rfl jX10.1 ⟨⟨Nat.le_of_ble_eq_true rfl, Nat.le_of_ble_eq_true rfl⟩, hcs0, hsl0⟩ (Nat.le_of_ble_eq_true rfl) rfl [0, 2, 3] rfl (fun _ => rfl) rfl dL_law_264 ?_
  intro _ _
  dsimp only [jput, List.set_cons_zero, List.set_cons_succ, Option.toList, List.append, List.cons_append, List.nil_append, List.append_nil]
  refine J.aload_n g dL_law_267 rfl rfl ?_
  refine J.aload_n g dL_law_268 rfl rfl ?_
  refine J.iload g dL_law_269 rfl ?_
  refine J.iconstN g 1 dL_law_271 ?_
  refine J.iaddN g dL_law_272 ?_
  refine J.sld g hX (k := i + 1) (by omega) (by omega) h1 dL_law_273 ?_
  refine J.callV g (c_X11_end l γ _ _ _ _ _ _ _ _ _ _ _ _ _ _ _ _ _ _ _ _ _ _ _ _ _ _ _ _ _ _ _ _ _ _ _ _ _ htl) jy_X11_end lm_L_28 (q0 := 86) rfl jX11.1 ⟨⟨Nat.le_of_ble_eq_true rfl, Nat.le_of_ble_eq_true rfl⟩, hcs0, hsl0⟩ (Nat.le_of_ble_eq_true rfl) rfl [86] rfl (fun _ => rfl) rfl dL_law_274 ?_
  intro _ _
  dsimp only [jput, List.set_cons_zero, List.set_cons_succ, Option.toList, List.append, List.cons_append, List.nil_append, List.append_nil]
  refine J.icmp_eq g dL_law_277 (tgt := 1075) (by decide) (fun c_277 => ?_) (fun c_277 => (c_277 (rfl)).elim)
  exact J.widen (Nat.le_add_right cs 1) (Nat.le_add_right sl 6) (K (⟨⟨jcutn_le htl, rfl, rfl⟩, ⟨hq, rfl, rfl⟩, hG, hI, ⟨hnx, hpl, hln, hpR, rfl⟩, ⟨rfl, him⟩, ⟨hsgc, hPB, hPf, hPV⟩, ⟨hsg, hMV⟩⟩))
set_option maxHeartbeats 8000000 in
set_option maxRecDepth 100000 in
theorem lc_text {l : Launch} {γ : jγ} {x : jE} {ca ma : Nat → Nat} {oa b L i cs sl : Nat} {xs : Nat → Int32} (g : jG γ x ({ frames := 2048, cells := 601024, slots := 7293034, locals := 84000 } : Room) code RL (some .boolean)) (hX : jScr x b L xs) (hL : L ≤ 3072) (hi : i + 6 ≤ L) (hcs : cs + 1 ≤ 601024) (hsl : sl + 6 ≤ 7293034)  {dsd : Int32} {tl : Nat} {tf : Nat → Int32} {q : jRS} {cd pt od ex : Nat} {mf af : Nat → Nat} {n : Nat} {f : Nat → Nat} {trn : Nat} {trf : Nat → Nat} {oon : Nat} {oof : Nat → Nat} {nx pl : Nat} {ln : Nat → Nat} {rf : Nat → Nat → Nat} {ic il : Nat → Nat} {ik : Nat → Bool} {iff : Nat → Nat → Nat} {pn : Nat} {M W : Nat → Nat → Nat} {s0 s1 s2 s3 : Nat → Nat} {sgc wh : Nat} {m0 m1 m2 : Nat → Nat} {rn : Nat} {rfp : Nat → Nat} {sg : Nat} {C : Nat → Nat} {gl : Nat} {gf : Nat → Nat} {fl : Nat} {ff : Nat → Nat} {mth mfw mse : Int32} {mwd : Int64} {mtd msz mto mfr mso mnu mfa mpl mro msm mln : Nat} {t w r9 KF SS bf lv9 : Nat → Nat} {mik : Nat → Bool} {su : Nat → Nat} {be : Nat → Bool} {fe my : Nat → Int32} {O9 : Nat → Nat} {S9 : Nat → Bool} {LF TF C9 rn9 rb TB : Nat → Nat} {o9 : Nat → Int64} (hR : lR tl tf q cd pt od ex mf af n f nx pl ln rf ic il ik iff sgc wh m0 m1 m2 rn rfp sg C fl ff mfw mtd mfa msm t w KF SS mik)
    (K : ∀ {dsd : Int32} {tl : Nat} {tf : Nat → Int32} {q : jRS} {cd pt od ex : Nat} {mf af : Nat → Nat} {n : Nat} {f : Nat → Nat} {trn : Nat} {trf : Nat → Nat} {oon : Nat} {oof : Nat → Nat} {nx pl : Nat} {ln : Nat → Nat} {rf : Nat → Nat → Nat} {ic il : Nat → Nat} {ik : Nat → Bool} {iff : Nat → Nat → Nat} {pn : Nat} {M W : Nat → Nat → Nat} {s0 s1 s2 s3 : Nat → Nat} {sgc wh : Nat} {m0 m1 m2 : Nat → Nat} {rn : Nat} {rfp : Nat → Nat} {sg : Nat} {C : Nat → Nat} {gl : Nat} {gf : Nat → Nat} {fl : Nat} {ff : Nat → Nat} {mth mfw mse : Int32} {mwd : Int64} {mtd msz mto mfr mso mnu mfa mpl mro msm mln : Nat} {t w r9 KF SS bf lv9 : Nat → Nat} {mik : Nat → Bool} {su : Nat → Nat} {be : Nat → Bool} {fe my : Nat → Int32} {O9 : Nat → Nat} {S9 : Nat → Bool} {LF TF C9 rn9 rb TB : Nat → Nat} {o9 : Nat → Int64}, lR tl tf q cd pt od ex mf af n f nx pl ln rf ic il ik iff sgc wh m0 m1 m2 rn rfp sg C fl ff mfw mtd mfa msm t w KF SS mik → J γ l x (lW γ ca ma oa dsd tl tf q cd pt od ex mf af n f trn trf oon oof nx pl ln rf ic il ik iff pn M W s0 s1 s2 s3 sgc wh m0 m1 m2 rn rfp sg C gl gf fl ff mth mfw mse mwd mtd msz mto mfr mso mnu mfa mpl mro msm mln t w r9 KF SS bf lv9 mik su be fe my O9 S9 LF TF C9 rn9 rb TB o9) [some (.ref b), some (.ref (ca 0)), some (.ref (ma 0)), some (.ref oa), some (.int (nI i)), none, none] [] (cs + 1) (sl + 6) 1075) : J γ l x (lW γ ca ma oa dsd tl tf q cd pt od ex mf af n f trn trf oon oof nx pl ln rf ic il ik iff pn M W s0 s1 s2 s3 sgc wh m0 m1 m2 rn rfp sg C gl gf fl ff mth mfw mse mwd mtd msz mto mfr mso mnu mfa mpl mro msm mln t w r9 KF SS bf lv9 mik su be fe my O9 S9 LF TF C9 rn9 rb TB o9) [some (.ref b), some (.ref (ca 0)), some (.ref (ma 0)), some (.ref oa), some (.int (nI i)), none, none] [] cs sl 282 := by
  obtain ⟨⟨htl, ht, hmtd⟩, ⟨hq, hmfa, hmfw⟩, hG, hI, ⟨hnx, hpl, hln, hpR, hmsm⟩, ⟨hmik, him⟩, ⟨hsgc, hPB, hPf, hPV⟩, hsg, hMV⟩ := id hR
  subst ht
  obtain rfl : tl = mtd := hmtd.symm
  subst hmfa
  subst hmfw
  obtain rfl : pl = msm := hmsm.symm
  obtain rfl : ik = mik := hmik.symm
  obtain ⟨hcd, hpt, hod, hex, hmfe, hafe⟩ := id hG
  subst hpt
  subst hod
  subst hex
  have hT := hG.tab
  have hn := hI.2.2.2.2.1
  have hfo := hI.2.2.2.2.2.2
  have hsm := g_small cd hcd
  have hf : ∀ j, j < n → f j < 24 := fun j hj => Nat.lt_of_lt_of_le (hfo j hj) hsm.2.1
  have hJ := jpl_cd hG
  have hO := jop_cd hG
  have hinv : ∀ a, a < god cd → ∀ c, c < god cd → jpl (god cd) mf (jpl (god cd) mf c a) (jop (god cd) af a) = c := fun a ha c hc => by rw [hJ, hO]; exact gP_can hcd ha hc
  have hcs0 : cs ≤ 601024 := by omega
  have hsl0 : sl ≤ 7293034 := by omega
  dsimp only [lW]
  have hJ0 : jRB (mq0 q.1.2.1 q.1.2.2.1 q.1.2.2.2 q.2.2.2.2) := ⟨⟨Nat.zero_le _, hq.1.2⟩, ⟨Nat.two_pow_pos 15, Nat.two_pow_pos 20⟩, ⟨Nat.zero_lt_succ 9, Nat.zero_le _⟩, Nat.zero_le _⟩
  have hQ : jrAll (jbs tf) tl 301 0 (jrTok (jbs tf) tl (mq0 q.1.2.1 q.1.2.2.1 q.1.2.2.2 q.2.2.2.2)) = jRes tf tl q := rfl
  by_cases hk0 : (jRes tf tl q).2.2.1.1 = 0
  ·
    refine J.aload_n g dL_law_282 rfl rfl ?_
    refine J.callV g (c_X10_text_good l γ _ _ _ _ _ _ _ _ _ _ _ _ _ _ _ _ _ _ _ _ _ _ _ _ _ _ _ _ _ _ _ _ _ q htl hq hk0 hG jRes_c) jy_X10_text lm_L_29 (q0 := 0) rfl jX10.1 ⟨⟨Nat.le_of_ble_eq_true rfl, Nat.le_of_ble_eq_true rfl⟩, hcs0, hsl0⟩ (Nat.le_of_ble_eq_true rfl) rfl [0, 1, 2, 3, 4, 5, 9, 10, 6, 7, 8, 15] rfl (fun _ => rfl) rfl dL_law_283 ?_
    intro u_283 h_283
    dsimp only [jput, List.set_cons_zero, List.set_cons_succ, Option.toList, List.append, List.cons_append, List.nil_append, List.append_nil]
    refine J.aload_n g dL_law_286 rfl rfl ?_
    refine J.callV g (c_X11_text l γ _ _ _ _ _ _ _ _ _ _ _ _ _ _ _ _ _ _ _ _ _ _ _ _ _ _ _ _ _ _ _ _ _ _ _ _ _ _ _ (q.2.2.2.2) (q.1.2.1) (q.1.2.2.1) (q.1.2.2.2) (fun j => jbs_lt tf j) htl ⟨tf, rfl⟩ hJ0) jy_X11_text lm_L_33 (q0 := 86) rfl jX11.1 ⟨⟨Nat.le_of_ble_eq_true rfl, Nat.le_of_ble_eq_true rfl⟩, hcs0, hsl0⟩ (Nat.le_of_ble_eq_true rfl) rfl [86, 87, 89, 88] rfl (fun _ => rfl) rfl dL_law_287 ?_
    intro u_287 h_287
    dsimp only [jput, List.set_cons_zero, List.set_cons_succ, Option.toList, List.append, List.cons_append, List.nil_append, List.append_nil]
    refine J.icmp_eq g dL_law_290 (tgt := 1075) (by decide) (fun c_290 => ?_) (fun c_290 => (c_290 (by rw [hQ, if_pos hk0])).elim)
    exact J.widen (Nat.le_add_right cs 1) (Nat.le_add_right sl 6) (K (q := u_283.1) (⟨⟨Nat.zero_le _, rfl, rfl⟩, ⟨by rw [h_283.1]; exact jRes_b htl hq, by rw [h_283.1]; exact h_287.1, by rw [h_283.1]; exact h_287.2.1⟩, h_283.2.1, mIs_same (by rw [h_283.1]; exact h_287.2.2.1 hk0) h_283.2.2 (fun _ _ => rfl), ⟨hnx, Nat.zero_le _, hln, fun j hj => absurd hj (Nat.not_lt_zero j), by rw [hQ, if_pos hk0]⟩, ⟨rfl, him⟩, ⟨hsgc, hPB, hPf, hPV⟩, ⟨hsg, hMV⟩⟩))
  ·
    refine J.aload_n g dL_law_282 rfl rfl ?_
    refine J.callV g (c_X10_text_bad l γ _ _ _ _ _ _ _ _ _ _ _ _ _ _ _ _ _ _ _ q htl hq hk0) jy_X10_text lm_L_29 (q0 := 0) rfl jX10.1 ⟨⟨Nat.le_of_ble_eq_true rfl, Nat.le_of_ble_eq_true rfl⟩, hcs0, hsl0⟩ (Nat.le_of_ble_eq_true rfl) rfl [0, 1, 2, 3, 4, 5] rfl (fun _ => rfl) rfl dL_law_283 ?_
    intro u_283 h_283
    dsimp only [jput, List.set_cons_zero, List.set_cons_succ, Option.toList, List.append, List.cons_append, List.nil_append, List.append_nil]
    refine J.aload_n g dL_law_286 rfl rfl ?_
    refine J.callV g (c_X11_text l γ _ _ _ _ _ _ _ _ _ _ _ _ _ _ _ _ _ _ _ _ _ _ _ _ _ _ _ _ _ _ _ _ _ _ _ _ _ _ _ (q.2.2.2.2) (q.1.2.1) (q.1.2.2.1) (q.1.2.2.2) (fun j => jbs_lt tf j) htl ⟨tf, rfl⟩ hJ0) jy_X11_text lm_L_33 (q0 := 86) rfl jX11.1 ⟨⟨Nat.le_of_ble_eq_true rfl, Nat.le_of_ble_eq_true rfl⟩, hcs0, hsl0⟩ (Nat.le_of_ble_eq_true rfl) rfl [86, 87, 89, 88] rfl (fun _ => rfl) rfl dL_law_287 ?_
    intro u_287 h_287
    dsimp only [jput, List.set_cons_zero, List.set_cons_succ, Option.toList, List.append, List.cons_append, List.nil_append, List.append_nil]
    refine J.icmp_eq g dL_law_290 (tgt := 1075) (by decide) (fun c_290 => ?_) (fun c_290 => (c_290 (by rw [hQ, if_neg hk0])).elim)
    exact J.widen (Nat.le_add_right cs 1) (Nat.le_add_right sl 6) (K (q := u_283) (⟨⟨Nat.zero_le _, rfl, rfl⟩, ⟨by rw [h_283]; exact jRes_b htl hq, by rw [h_283]; exact h_287.1, by rw [h_283]; exact h_287.2.1⟩, hG, by rw [h_287.2.2.2 hk0]; exact hI, ⟨hnx, hpl, hln, hpR, by rw [hQ, if_neg hk0]⟩, ⟨rfl, him⟩, ⟨hsgc, hPB, hPf, hPV⟩, ⟨hsg, hMV⟩⟩))
set_option maxHeartbeats 8000000 in
set_option maxRecDepth 100000 in
theorem lc_fault {l : Launch} {γ : jγ} {x : jE} {ca ma : Nat → Nat} {oa b L i cs sl : Nat} {xs : Nat → Int32} {a1 : Int32} (g : jG γ x ({ frames := 2048, cells := 601024, slots := 7293034, locals := 84000 } : Room) code RL (some .boolean)) (hX : jScr x b L xs) (hL : L ≤ 3072) (hi : i + 6 ≤ L) (hcs : cs + 1 ≤ 601024) (hsl : sl + 6 ≤ 7293034) (h1 : xs (i + 1) = a1) {dsd : Int32} {tl : Nat} {tf : Nat → Int32} {q : jRS} {cd pt od ex : Nat} {mf af : Nat → Nat} {n : Nat} {f : Nat → Nat} {trn : Nat} {trf : Nat → Nat} {oon : Nat} {oof : Nat → Nat} {nx pl : Nat} {ln : Nat → Nat} {rf : Nat → Nat → Nat} {ic il : Nat → Nat} {ik : Nat → Bool} {iff : Nat → Nat → Nat} {pn : Nat} {M W : Nat → Nat → Nat} {s0 s1 s2 s3 : Nat → Nat} {sgc wh : Nat} {m0 m1 m2 : Nat → Nat} {rn : Nat} {rfp : Nat → Nat} {sg : Nat} {C : Nat → Nat} {gl : Nat} {gf : Nat → Nat} {fl : Nat} {ff : Nat → Nat} {mth mfw mse : Int32} {mwd : Int64} {mtd msz mto mfr mso mnu mfa mpl mro msm mln : Nat} {t w r9 KF SS bf lv9 : Nat → Nat} {mik : Nat → Bool} {su : Nat → Nat} {be : Nat → Bool} {fe my : Nat → Int32} {O9 : Nat → Nat} {S9 : Nat → Bool} {LF TF C9 rn9 rb TB : Nat → Nat} {o9 : Nat → Int64} (hR : lR tl tf q cd pt od ex mf af n f nx pl ln rf ic il ik iff sgc wh m0 m1 m2 rn rfp sg C fl ff mfw mtd mfa msm t w KF SS mik)
    (K : ∀ {dsd : Int32} {tl : Nat} {tf : Nat → Int32} {q : jRS} {cd pt od ex : Nat} {mf af : Nat → Nat} {n : Nat} {f : Nat → Nat} {trn : Nat} {trf : Nat → Nat} {oon : Nat} {oof : Nat → Nat} {nx pl : Nat} {ln : Nat → Nat} {rf : Nat → Nat → Nat} {ic il : Nat → Nat} {ik : Nat → Bool} {iff : Nat → Nat → Nat} {pn : Nat} {M W : Nat → Nat → Nat} {s0 s1 s2 s3 : Nat → Nat} {sgc wh : Nat} {m0 m1 m2 : Nat → Nat} {rn : Nat} {rfp : Nat → Nat} {sg : Nat} {C : Nat → Nat} {gl : Nat} {gf : Nat → Nat} {fl : Nat} {ff : Nat → Nat} {mth mfw mse : Int32} {mwd : Int64} {mtd msz mto mfr mso mnu mfa mpl mro msm mln : Nat} {t w r9 KF SS bf lv9 : Nat → Nat} {mik : Nat → Bool} {su : Nat → Nat} {be : Nat → Bool} {fe my : Nat → Int32} {O9 : Nat → Nat} {S9 : Nat → Bool} {LF TF C9 rn9 rb TB : Nat → Nat} {o9 : Nat → Int64}, lR tl tf q cd pt od ex mf af n f nx pl ln rf ic il ik iff sgc wh m0 m1 m2 rn rfp sg C fl ff mfw mtd mfa msm t w KF SS mik → J γ l x (lW γ ca ma oa dsd tl tf q cd pt od ex mf af n f trn trf oon oof nx pl ln rf ic il ik iff pn M W s0 s1 s2 s3 sgc wh m0 m1 m2 rn rfp sg C gl gf fl ff mth mfw mse mwd mtd msz mto mfr mso mnu mfa mpl mro msm mln t w r9 KF SS bf lv9 mik su be fe my O9 S9 LF TF C9 rn9 rb TB o9) [some (.ref b), some (.ref (ca 0)), some (.ref (ma 0)), some (.ref oa), some (.int (nI i)), none, none] [] (cs + 1) (sl + 6) 1075) : J γ l x (lW γ ca ma oa dsd tl tf q cd pt od ex mf af n f trn trf oon oof nx pl ln rf ic il ik iff pn M W s0 s1 s2 s3 sgc wh m0 m1 m2 rn rfp sg C gl gf fl ff mth mfw mse mwd mtd msz mto mfr mso mnu mfa mpl mro msm mln t w r9 KF SS bf lv9 mik su be fe my O9 S9 LF TF C9 rn9 rb TB o9) [some (.ref b), some (.ref (ca 0)), some (.ref (ma 0)), some (.ref oa), some (.int (nI i)), none, none] [] cs sl 295 := by
  obtain ⟨⟨htl, ht, hmtd⟩, ⟨hq, hmfa, hmfw⟩, hG, hI, ⟨hnx, hpl, hln, hpR, hmsm⟩, ⟨hmik, him⟩, ⟨hsgc, hPB, hPf, hPV⟩, hsg, hMV⟩ := id hR
  subst ht
  obtain rfl : tl = mtd := hmtd.symm
  subst hmfa
  subst hmfw
  obtain rfl : pl = msm := hmsm.symm
  obtain rfl : ik = mik := hmik.symm
  obtain ⟨hcd, hpt, hod, hex, hmfe, hafe⟩ := id hG
  subst hpt
  subst hod
  subst hex
  have hT := hG.tab
  have hn := hI.2.2.2.2.1
  have hfo := hI.2.2.2.2.2.2
  have hsm := g_small cd hcd
  have hf : ∀ j, j < n → f j < 24 := fun j hj => Nat.lt_of_lt_of_le (hfo j hj) hsm.2.1
  have hJ := jpl_cd hG
  have hO := jop_cd hG
  have hinv : ∀ a, a < god cd → ∀ c, c < god cd → jpl (god cd) mf (jpl (god cd) mf c a) (jop (god cd) af a) = c := fun a ha c hc => by rw [hJ, hO]; exact gP_can hcd ha hc
  have hcs0 : cs ≤ 601024 := by omega
  have hsl0 : sl ≤ 7293034 := by omega
  dsimp only [lW]
  refine J.aload_n g dL_law_295 rfl rfl ?_
  refine J.aload_n g dL_law_296 rfl rfl ?_
  refine J.iload g dL_law_297 rfl ?_
  refine J.iconstN g 1 dL_law_299 ?_
  refine J.iaddN g dL_law_300 ?_
  refine J.sld g hX (k := i + 1) (by omega) (by omega) h1 dL_law_301 ?_
  refine J.callV0 g (c_X10_fault l γ _ _ _ _ _ _ _ _ _ _ _ _ _ _ _ q _ ) jy_X10_fault lm_L_34 (q0 := 0) rfl jX10.1 ⟨⟨Nat.le_of_ble_eq_true rfl, Nat.le_of_ble_eq_true rfl⟩, hcs0, hsl0⟩ (Nat.le_of_ble_eq_true rfl) rfl [0, 1] rfl rfl dL_law_302 ?_
  intro _ _
  dsimp only [jpush]
  refine J.aload_n g dL_law_305 rfl rfl ?_
  refine J.aload_n g dL_law_306 rfl rfl ?_
  refine J.iload g dL_law_307 rfl ?_
  refine J.iconstN g 1 dL_law_309 ?_
  refine J.iaddN g dL_law_310 ?_
  refine J.sld g hX (k := i + 1) (by omega) (by omega) h1 dL_law_311 ?_
  refine J.callV g (c_X11_fault l γ _ _ _ _ _ _ _ _ _ _ _ _ _ _ _ _ _ _ _ _ _ _ _ _ _ _ _ _ _ _ _ _ _ _ _ _ _ ) jy_X11_fault lm_L_37 (q0 := 86) rfl jX11.1 ⟨⟨Nat.le_of_ble_eq_true rfl, Nat.le_of_ble_eq_true rfl⟩, hcs0, hsl0⟩ (Nat.le_of_ble_eq_true rfl) rfl [86] rfl (fun _ => rfl) rfl dL_law_312 ?_
  intro _ _
  dsimp only [jput, List.set_cons_zero, List.set_cons_succ, Option.toList, List.append, List.cons_append, List.nil_append, List.append_nil]
  refine J.icmp_eq g dL_law_315 (tgt := 1075) (by decide) (fun c_315 => ?_) (fun c_315 => (c_315 (rfl)).elim)
  exact J.widen (Nat.le_add_right cs 1) (Nat.le_add_right sl 6) (K (hR))
set_option maxHeartbeats 8000000 in
set_option maxRecDepth 100000 in
theorem lc_now {l : Launch} {γ : jγ} {x : jE} {ca ma : Nat → Nat} {oa b L i cs sl : Nat} {xs : Nat → Int32} {a1 : Int32} (g : jG γ x ({ frames := 2048, cells := 601024, slots := 7293034, locals := 84000 } : Room) code RL (some .boolean)) (hX : jScr x b L xs) (hL : L ≤ 3072) (hi : i + 6 ≤ L) (hcs : cs + 1 ≤ 601024) (hsl : sl + 6 ≤ 7293034) (h1 : xs (i + 1) = a1) {dsd : Int32} {tl : Nat} {tf : Nat → Int32} {q : jRS} {cd pt od ex : Nat} {mf af : Nat → Nat} {n : Nat} {f : Nat → Nat} {trn : Nat} {trf : Nat → Nat} {oon : Nat} {oof : Nat → Nat} {nx pl : Nat} {ln : Nat → Nat} {rf : Nat → Nat → Nat} {ic il : Nat → Nat} {ik : Nat → Bool} {iff : Nat → Nat → Nat} {pn : Nat} {M W : Nat → Nat → Nat} {s0 s1 s2 s3 : Nat → Nat} {sgc wh : Nat} {m0 m1 m2 : Nat → Nat} {rn : Nat} {rfp : Nat → Nat} {sg : Nat} {C : Nat → Nat} {gl : Nat} {gf : Nat → Nat} {fl : Nat} {ff : Nat → Nat} {mth mfw mse : Int32} {mwd : Int64} {mtd msz mto mfr mso mnu mfa mpl mro msm mln : Nat} {t w r9 KF SS bf lv9 : Nat → Nat} {mik : Nat → Bool} {su : Nat → Nat} {be : Nat → Bool} {fe my : Nat → Int32} {O9 : Nat → Nat} {S9 : Nat → Bool} {LF TF C9 rn9 rb TB : Nat → Nat} {o9 : Nat → Int64} (hR : lR tl tf q cd pt od ex mf af n f nx pl ln rf ic il ik iff sgc wh m0 m1 m2 rn rfp sg C fl ff mfw mtd mfa msm t w KF SS mik)
    (K : ∀ {dsd : Int32} {tl : Nat} {tf : Nat → Int32} {q : jRS} {cd pt od ex : Nat} {mf af : Nat → Nat} {n : Nat} {f : Nat → Nat} {trn : Nat} {trf : Nat → Nat} {oon : Nat} {oof : Nat → Nat} {nx pl : Nat} {ln : Nat → Nat} {rf : Nat → Nat → Nat} {ic il : Nat → Nat} {ik : Nat → Bool} {iff : Nat → Nat → Nat} {pn : Nat} {M W : Nat → Nat → Nat} {s0 s1 s2 s3 : Nat → Nat} {sgc wh : Nat} {m0 m1 m2 : Nat → Nat} {rn : Nat} {rfp : Nat → Nat} {sg : Nat} {C : Nat → Nat} {gl : Nat} {gf : Nat → Nat} {fl : Nat} {ff : Nat → Nat} {mth mfw mse : Int32} {mwd : Int64} {mtd msz mto mfr mso mnu mfa mpl mro msm mln : Nat} {t w r9 KF SS bf lv9 : Nat → Nat} {mik : Nat → Bool} {su : Nat → Nat} {be : Nat → Bool} {fe my : Nat → Int32} {O9 : Nat → Nat} {S9 : Nat → Bool} {LF TF C9 rn9 rb TB : Nat → Nat} {o9 : Nat → Int64}, lR tl tf q cd pt od ex mf af n f nx pl ln rf ic il ik iff sgc wh m0 m1 m2 rn rfp sg C fl ff mfw mtd mfa msm t w KF SS mik → J γ l x (lW γ ca ma oa dsd tl tf q cd pt od ex mf af n f trn trf oon oof nx pl ln rf ic il ik iff pn M W s0 s1 s2 s3 sgc wh m0 m1 m2 rn rfp sg C gl gf fl ff mth mfw mse mwd mtd msz mto mfr mso mnu mfa mpl mro msm mln t w r9 KF SS bf lv9 mik su be fe my O9 S9 LF TF C9 rn9 rb TB o9) [some (.ref b), some (.ref (ca 0)), some (.ref (ma 0)), some (.ref oa), some (.int (nI i)), none, none] [] (cs + 1) (sl + 6) 1075) : J γ l x (lW γ ca ma oa dsd tl tf q cd pt od ex mf af n f trn trf oon oof nx pl ln rf ic il ik iff pn M W s0 s1 s2 s3 sgc wh m0 m1 m2 rn rfp sg C gl gf fl ff mth mfw mse mwd mtd msz mto mfr mso mnu mfa mpl mro msm mln t w r9 KF SS bf lv9 mik su be fe my O9 S9 LF TF C9 rn9 rb TB o9) [some (.ref b), some (.ref (ca 0)), some (.ref (ma 0)), some (.ref oa), some (.int (nI i)), none, none] [] cs sl 320 := by
  obtain ⟨⟨htl, ht, hmtd⟩, ⟨hq, hmfa, hmfw⟩, hG, hI, ⟨hnx, hpl, hln, hpR, hmsm⟩, ⟨hmik, him⟩, ⟨hsgc, hPB, hPf, hPV⟩, hsg, hMV⟩ := id hR
  subst ht
  obtain rfl : tl = mtd := hmtd.symm
  subst hmfa
  subst hmfw
  obtain rfl : pl = msm := hmsm.symm
  obtain rfl : ik = mik := hmik.symm
  obtain ⟨hcd, hpt, hod, hex, hmfe, hafe⟩ := id hG
  subst hpt
  subst hod
  subst hex
  have hT := hG.tab
  have hn := hI.2.2.2.2.1
  have hfo := hI.2.2.2.2.2.2
  have hsm := g_small cd hcd
  have hf : ∀ j, j < n → f j < 24 := fun j hj => Nat.lt_of_lt_of_le (hfo j hj) hsm.2.1
  have hJ := jpl_cd hG
  have hO := jop_cd hG
  have hinv : ∀ a, a < god cd → ∀ c, c < god cd → jpl (god cd) mf (jpl (god cd) mf c a) (jop (god cd) af a) = c := fun a ha c hc => by rw [hJ, hO]; exact gP_can hcd ha hc
  have hcs0 : cs ≤ 601024 := by omega
  have hsl0 : sl ≤ 7293034 := by omega
  dsimp only [lW]
  refine J.aload_n g dL_law_320 rfl rfl ?_
  refine J.aload_n g dL_law_321 rfl rfl ?_
  refine J.iload g dL_law_322 rfl ?_
  refine J.iconstN g 1 dL_law_324 ?_
  refine J.iaddN g dL_law_325 ?_
  refine J.sld g hX (k := i + 1) (by omega) (by omega) h1 dL_law_326 ?_
  refine J.callV0 g (c_X10_now l γ _ _ _ _ _ _ _ _ _ _ _ _ _ _ _ _ _ _ _ _ _ _ _ _ _ _ _ _ _ _ _ _ hn hT hf) jy_X10_now lm_L_38 (q0 := 0) rfl jX10.1 ⟨⟨Nat.le_of_ble_eq_true rfl, Nat.le_of_ble_eq_true rfl⟩, hcs0, hsl0⟩ (Nat.le_of_ble_eq_true rfl) rfl [0, 9, 10, 6, 7, 8, 15, 2, 3] rfl rfl dL_law_327 ?_
  intro _ _
  dsimp only [jpush]
  refine J.aload_n g dL_law_330 rfl rfl ?_
  refine J.aload_n g dL_law_331 rfl rfl ?_
  refine J.iload g dL_law_332 rfl ?_
  refine J.iconstN g 1 dL_law_334 ?_
  refine J.iaddN g dL_law_335 ?_
  refine J.sld g hX (k := i + 1) (by omega) (by omega) h1 dL_law_336 ?_
  refine J.callV g (c_X11_now l γ _ _ _ _ _ _ _ _ _ _ _ _ _ _ _ _ _ _ _ _ _ _ _ _ _ _ _ _ _ _ _ _ _ _ _ _ _ _ _ _ _ _ hI) jy_X11_now lm_L_41 (q0 := 86) rfl jX11.1 ⟨⟨Nat.le_of_ble_eq_true rfl, Nat.le_of_ble_eq_true rfl⟩, hcs0, hsl0⟩ (Nat.le_of_ble_eq_true rfl) rfl [86, 88, 95] rfl (fun _ => rfl) rfl dL_law_337 ?_
  intro u_337 h_337
  dsimp only [jput, List.set_cons_zero, List.set_cons_succ, Option.toList, List.append, List.cons_append, List.nil_append, List.append_nil]
  refine J.icmp_eq g dL_law_340 (tgt := 1075) (by decide) (fun c_340 => ?_) (fun c_340 => (c_340 (by rw [jsa_t hJ])).elim)
  exact J.widen (Nat.le_add_right cs 1) (Nat.le_add_right sl 6) (K (hR))
set_option maxHeartbeats 8000000 in
set_option maxRecDepth 100000 in
theorem lc_part {l : Launch} {γ : jγ} {x : jE} {ca ma : Nat → Nat} {oa b L i cs sl : Nat} {xs : Nat → Int32} {a1 : Int32} (g : jG γ x ({ frames := 2048, cells := 601024, slots := 7293034, locals := 84000 } : Room) code RL (some .boolean)) (hX : jScr x b L xs) (hL : L ≤ 3072) (hi : i + 6 ≤ L) (hcs : cs + 1 ≤ 601024) (hsl : sl + 6 ≤ 7293034) (h1 : xs (i + 1) = a1) {dsd : Int32} {tl : Nat} {tf : Nat → Int32} {q : jRS} {cd pt od ex : Nat} {mf af : Nat → Nat} {n : Nat} {f : Nat → Nat} {trn : Nat} {trf : Nat → Nat} {oon : Nat} {oof : Nat → Nat} {nx pl : Nat} {ln : Nat → Nat} {rf : Nat → Nat → Nat} {ic il : Nat → Nat} {ik : Nat → Bool} {iff : Nat → Nat → Nat} {pn : Nat} {M W : Nat → Nat → Nat} {s0 s1 s2 s3 : Nat → Nat} {sgc wh : Nat} {m0 m1 m2 : Nat → Nat} {rn : Nat} {rfp : Nat → Nat} {sg : Nat} {C : Nat → Nat} {gl : Nat} {gf : Nat → Nat} {fl : Nat} {ff : Nat → Nat} {mth mfw mse : Int32} {mwd : Int64} {mtd msz mto mfr mso mnu mfa mpl mro msm mln : Nat} {t w r9 KF SS bf lv9 : Nat → Nat} {mik : Nat → Bool} {su : Nat → Nat} {be : Nat → Bool} {fe my : Nat → Int32} {O9 : Nat → Nat} {S9 : Nat → Bool} {LF TF C9 rn9 rb TB : Nat → Nat} {o9 : Nat → Int64} (hR : lR tl tf q cd pt od ex mf af n f nx pl ln rf ic il ik iff sgc wh m0 m1 m2 rn rfp sg C fl ff mfw mtd mfa msm t w KF SS mik)
    (K : ∀ {dsd : Int32} {tl : Nat} {tf : Nat → Int32} {q : jRS} {cd pt od ex : Nat} {mf af : Nat → Nat} {n : Nat} {f : Nat → Nat} {trn : Nat} {trf : Nat → Nat} {oon : Nat} {oof : Nat → Nat} {nx pl : Nat} {ln : Nat → Nat} {rf : Nat → Nat → Nat} {ic il : Nat → Nat} {ik : Nat → Bool} {iff : Nat → Nat → Nat} {pn : Nat} {M W : Nat → Nat → Nat} {s0 s1 s2 s3 : Nat → Nat} {sgc wh : Nat} {m0 m1 m2 : Nat → Nat} {rn : Nat} {rfp : Nat → Nat} {sg : Nat} {C : Nat → Nat} {gl : Nat} {gf : Nat → Nat} {fl : Nat} {ff : Nat → Nat} {mth mfw mse : Int32} {mwd : Int64} {mtd msz mto mfr mso mnu mfa mpl mro msm mln : Nat} {t w r9 KF SS bf lv9 : Nat → Nat} {mik : Nat → Bool} {su : Nat → Nat} {be : Nat → Bool} {fe my : Nat → Int32} {O9 : Nat → Nat} {S9 : Nat → Bool} {LF TF C9 rn9 rb TB : Nat → Nat} {o9 : Nat → Int64}, lR tl tf q cd pt od ex mf af n f nx pl ln rf ic il ik iff sgc wh m0 m1 m2 rn rfp sg C fl ff mfw mtd mfa msm t w KF SS mik → J γ l x (lW γ ca ma oa dsd tl tf q cd pt od ex mf af n f trn trf oon oof nx pl ln rf ic il ik iff pn M W s0 s1 s2 s3 sgc wh m0 m1 m2 rn rfp sg C gl gf fl ff mth mfw mse mwd mtd msz mto mfr mso mnu mfa mpl mro msm mln t w r9 KF SS bf lv9 mik su be fe my O9 S9 LF TF C9 rn9 rb TB o9) [some (.ref b), some (.ref (ca 0)), some (.ref (ma 0)), some (.ref oa), some (.int (nI i)), none, none] [] (cs + 1) (sl + 6) 1075) : J γ l x (lW γ ca ma oa dsd tl tf q cd pt od ex mf af n f trn trf oon oof nx pl ln rf ic il ik iff pn M W s0 s1 s2 s3 sgc wh m0 m1 m2 rn rfp sg C gl gf fl ff mth mfw mse mwd mtd msz mto mfr mso mnu mfa mpl mro msm mln t w r9 KF SS bf lv9 mik su be fe my O9 S9 LF TF C9 rn9 rb TB o9) [some (.ref b), some (.ref (ca 0)), some (.ref (ma 0)), some (.ref oa), some (.int (nI i)), none, none] [] cs sl 345 := by
  obtain ⟨⟨htl, ht, hmtd⟩, ⟨hq, hmfa, hmfw⟩, hG, hI, ⟨hnx, hpl, hln, hpR, hmsm⟩, ⟨hmik, him⟩, ⟨hsgc, hPB, hPf, hPV⟩, hsg, hMV⟩ := id hR
  subst ht
  obtain rfl : tl = mtd := hmtd.symm
  subst hmfa
  subst hmfw
  obtain rfl : pl = msm := hmsm.symm
  obtain rfl : ik = mik := hmik.symm
  obtain ⟨hcd, hpt, hod, hex, hmfe, hafe⟩ := id hG
  subst hpt
  subst hod
  subst hex
  have hT := hG.tab
  have hn := hI.2.2.2.2.1
  have hfo := hI.2.2.2.2.2.2
  have hsm := g_small cd hcd
  have hf : ∀ j, j < n → f j < 24 := fun j hj => Nat.lt_of_lt_of_le (hfo j hj) hsm.2.1
  have hJ := jpl_cd hG
  have hO := jop_cd hG
  have hinv : ∀ a, a < god cd → ∀ c, c < god cd → jpl (god cd) mf (jpl (god cd) mf c a) (jop (god cd) af a) = c := fun a ha c hc => by rw [hJ, hO]; exact gP_can hcd ha hc
  have hcs0 : cs ≤ 601024 := by omega
  have hsl0 : sl ≤ 7293034 := by omega
  dsimp only [lW]
  refine J.aload_n g dL_law_345 rfl rfl ?_
  refine J.aload_n g dL_law_346 rfl rfl ?_
  refine J.iload g dL_law_347 rfl ?_
  refine J.iconstN g 1 dL_law_349 ?_
  refine J.iaddN g dL_law_350 ?_
  refine J.sld g hX (k := i + 1) (by omega) (by omega) h1 dL_law_351 ?_
  refine J.callV0 g (c_X10_part l γ _ _ _ _ _ _ _ _ _ _ _ _ _ _ _ _ _ _ _ _ _ _ _ (by have := hsm.1; omega) hsm.2.2.2.1) jy_X10_part lm_L_42 (q0 := 0) rfl jX10.1 ⟨⟨Nat.le_of_ble_eq_true rfl, Nat.le_of_ble_eq_true rfl⟩, hcs0, hsl0⟩ (Nat.le_of_ble_eq_true rfl) rfl [0, 6, 7, 8] rfl rfl dL_law_352 ?_
  intro _ _
  dsimp only [jpush]
  refine J.aload_n g dL_law_355 rfl rfl ?_
  refine J.aload_n g dL_law_356 rfl rfl ?_
  refine J.iload g dL_law_357 rfl ?_
  refine J.iconstN g 1 dL_law_359 ?_
  refine J.iaddN g dL_law_360 ?_
  refine J.sld g hX (k := i + 1) (by omega) (by omega) h1 dL_law_361 ?_
  refine J.callV g (c_X11_part l γ _ _ _ _ _ _ _ _ _ _ _ _ _ _ _ _ _ _ _ _ _ _ _ _ _ _ _ _ _ _ _ _ _ _ _ _ _ _ _ _ _ hI) jy_X11_part lm_L_45 (q0 := 86) rfl jX11.1 ⟨⟨Nat.le_of_ble_eq_true rfl, Nat.le_of_ble_eq_true rfl⟩, hcs0, hsl0⟩ (Nat.le_of_ble_eq_true rfl) rfl [86, 88] rfl (fun _ => rfl) rfl dL_law_362 ?_
  intro _ _
  dsimp only [jput, List.set_cons_zero, List.set_cons_succ, Option.toList, List.append, List.cons_append, List.nil_append, List.append_nil]
  refine J.icmp_eq g dL_law_365 (tgt := 1075) (by decide) (fun c_365 => ?_) (fun c_365 => (c_365 (rfl)).elim)
  exact J.widen (Nat.le_add_right cs 1) (Nat.le_add_right sl 6) (K (hR))
set_option maxHeartbeats 8000000 in
set_option maxRecDepth 100000 in
theorem lc_at {l : Launch} {γ : jγ} {x : jE} {ca ma : Nat → Nat} {oa b L i cs sl : Nat} {xs : Nat → Int32} {a1 : Int32} (g : jG γ x ({ frames := 2048, cells := 601024, slots := 7293034, locals := 84000 } : Room) code RL (some .boolean)) (hX : jScr x b L xs) (hL : L ≤ 3072) (hi : i + 6 ≤ L) (hcs : cs + 1 ≤ 601024) (hsl : sl + 6 ≤ 7293034) (h1 : xs (i + 1) = a1) {dsd : Int32} {tl : Nat} {tf : Nat → Int32} {q : jRS} {cd pt od ex : Nat} {mf af : Nat → Nat} {n : Nat} {f : Nat → Nat} {trn : Nat} {trf : Nat → Nat} {oon : Nat} {oof : Nat → Nat} {nx pl : Nat} {ln : Nat → Nat} {rf : Nat → Nat → Nat} {ic il : Nat → Nat} {ik : Nat → Bool} {iff : Nat → Nat → Nat} {pn : Nat} {M W : Nat → Nat → Nat} {s0 s1 s2 s3 : Nat → Nat} {sgc wh : Nat} {m0 m1 m2 : Nat → Nat} {rn : Nat} {rfp : Nat → Nat} {sg : Nat} {C : Nat → Nat} {gl : Nat} {gf : Nat → Nat} {fl : Nat} {ff : Nat → Nat} {mth mfw mse : Int32} {mwd : Int64} {mtd msz mto mfr mso mnu mfa mpl mro msm mln : Nat} {t w r9 KF SS bf lv9 : Nat → Nat} {mik : Nat → Bool} {su : Nat → Nat} {be : Nat → Bool} {fe my : Nat → Int32} {O9 : Nat → Nat} {S9 : Nat → Bool} {LF TF C9 rn9 rb TB : Nat → Nat} {o9 : Nat → Int64} (hR : lR tl tf q cd pt od ex mf af n f nx pl ln rf ic il ik iff sgc wh m0 m1 m2 rn rfp sg C fl ff mfw mtd mfa msm t w KF SS mik)
    (K : ∀ {dsd : Int32} {tl : Nat} {tf : Nat → Int32} {q : jRS} {cd pt od ex : Nat} {mf af : Nat → Nat} {n : Nat} {f : Nat → Nat} {trn : Nat} {trf : Nat → Nat} {oon : Nat} {oof : Nat → Nat} {nx pl : Nat} {ln : Nat → Nat} {rf : Nat → Nat → Nat} {ic il : Nat → Nat} {ik : Nat → Bool} {iff : Nat → Nat → Nat} {pn : Nat} {M W : Nat → Nat → Nat} {s0 s1 s2 s3 : Nat → Nat} {sgc wh : Nat} {m0 m1 m2 : Nat → Nat} {rn : Nat} {rfp : Nat → Nat} {sg : Nat} {C : Nat → Nat} {gl : Nat} {gf : Nat → Nat} {fl : Nat} {ff : Nat → Nat} {mth mfw mse : Int32} {mwd : Int64} {mtd msz mto mfr mso mnu mfa mpl mro msm mln : Nat} {t w r9 KF SS bf lv9 : Nat → Nat} {mik : Nat → Bool} {su : Nat → Nat} {be : Nat → Bool} {fe my : Nat → Int32} {O9 : Nat → Nat} {S9 : Nat → Bool} {LF TF C9 rn9 rb TB : Nat → Nat} {o9 : Nat → Int64}, lR tl tf q cd pt od ex mf af n f nx pl ln rf ic il ik iff sgc wh m0 m1 m2 rn rfp sg C fl ff mfw mtd mfa msm t w KF SS mik → J γ l x (lW γ ca ma oa dsd tl tf q cd pt od ex mf af n f trn trf oon oof nx pl ln rf ic il ik iff pn M W s0 s1 s2 s3 sgc wh m0 m1 m2 rn rfp sg C gl gf fl ff mth mfw mse mwd mtd msz mto mfr mso mnu mfa mpl mro msm mln t w r9 KF SS bf lv9 mik su be fe my O9 S9 LF TF C9 rn9 rb TB o9) [some (.ref b), some (.ref (ca 0)), some (.ref (ma 0)), some (.ref oa), some (.int (nI i)), none, none] [] (cs + 1) (sl + 6) 1075) : J γ l x (lW γ ca ma oa dsd tl tf q cd pt od ex mf af n f trn trf oon oof nx pl ln rf ic il ik iff pn M W s0 s1 s2 s3 sgc wh m0 m1 m2 rn rfp sg C gl gf fl ff mth mfw mse mwd mtd msz mto mfr mso mnu mfa mpl mro msm mln t w r9 KF SS bf lv9 mik su be fe my O9 S9 LF TF C9 rn9 rb TB o9) [some (.ref b), some (.ref (ca 0)), some (.ref (ma 0)), some (.ref oa), some (.int (nI i)), none, none] [] cs sl 370 := by
  obtain ⟨⟨htl, ht, hmtd⟩, ⟨hq, hmfa, hmfw⟩, hG, hI, ⟨hnx, hpl, hln, hpR, hmsm⟩, ⟨hmik, him⟩, ⟨hsgc, hPB, hPf, hPV⟩, hsg, hMV⟩ := id hR
  subst ht
  obtain rfl : tl = mtd := hmtd.symm
  subst hmfa
  subst hmfw
  obtain rfl : pl = msm := hmsm.symm
  obtain rfl : ik = mik := hmik.symm
  obtain ⟨hcd, hpt, hod, hex, hmfe, hafe⟩ := id hG
  subst hpt
  subst hod
  subst hex
  have hT := hG.tab
  have hn := hI.2.2.2.2.1
  have hfo := hI.2.2.2.2.2.2
  have hsm := g_small cd hcd
  have hf : ∀ j, j < n → f j < 24 := fun j hj => Nat.lt_of_lt_of_le (hfo j hj) hsm.2.1
  have hJ := jpl_cd hG
  have hO := jop_cd hG
  have hinv : ∀ a, a < god cd → ∀ c, c < god cd → jpl (god cd) mf (jpl (god cd) mf c a) (jop (god cd) af a) = c := fun a ha c hc => by rw [hJ, hO]; exact gP_can hcd ha hc
  have hcs0 : cs ≤ 601024 := by omega
  have hsl0 : sl ≤ 7293034 := by omega
  dsimp only [lW]
  refine J.aload_n g dL_law_370 rfl rfl ?_
  refine J.aload_n g dL_law_371 rfl rfl ?_
  refine J.iload g dL_law_372 rfl ?_
  refine J.iconstN g 1 dL_law_374 ?_
  refine J.iaddN g dL_law_375 ?_
  refine J.sld g hX (k := i + 1) (by omega) (by omega) h1 dL_law_376 ?_
  refine J.callV0 g (c_X10_at l γ _ _ _ _ _ _ _ _ _ _ _ _ _ _ _ _ _ _ hn) jy_X10_at lm_L_46 (q0 := 0) rfl jX10.1 ⟨⟨Nat.le_of_ble_eq_true rfl, Nat.le_of_ble_eq_true rfl⟩, hcs0, hsl0⟩ (Nat.le_of_ble_eq_true rfl) rfl [0, 9, 10] rfl rfl dL_law_377 ?_
  intro _ _
  dsimp only [jpush]
  refine J.aload_n g dL_law_380 rfl rfl ?_
  refine J.aload_n g dL_law_381 rfl rfl ?_
  refine J.iload g dL_law_382 rfl ?_
  refine J.iconstN g 1 dL_law_384 ?_
  refine J.iaddN g dL_law_385 ?_
  refine J.sld g hX (k := i + 1) (by omega) (by omega) h1 dL_law_386 ?_
  refine J.callV g (c_X11_at l γ _ _ _ _ _ _ _ _ _ _ _ _ _ _ _ _ _ _ _ _ _ _ _ _ _ _ _ _ _ _ _ _ _ _ _ _ _ _ _ _ _ hI) jy_X11_at lm_L_49 (q0 := 86) rfl jX11.1 ⟨⟨Nat.le_of_ble_eq_true rfl, Nat.le_of_ble_eq_true rfl⟩, hcs0, hsl0⟩ (Nat.le_of_ble_eq_true rfl) rfl [86, 88] rfl (fun _ => rfl) rfl dL_law_387 ?_
  intro _ _
  dsimp only [jput, List.set_cons_zero, List.set_cons_succ, Option.toList, List.append, List.cons_append, List.nil_append, List.append_nil]
  refine J.icmp_eq g dL_law_390 (tgt := 1075) (by decide) (fun c_390 => ?_) (fun c_390 => (c_390 (rfl)).elim)
  exact J.widen (Nat.le_add_right cs 1) (Nat.le_add_right sl 6) (K (hR))
set_option maxHeartbeats 8000000 in
set_option maxRecDepth 100000 in
theorem lc_add {l : Launch} {γ : jγ} {x : jE} {ca ma : Nat → Nat} {oa b L i cs sl : Nat} {xs : Nat → Int32} {a1 a2 : Int32} (g : jG γ x ({ frames := 2048, cells := 601024, slots := 7293034, locals := 84000 } : Room) code RL (some .boolean)) (hX : jScr x b L xs) (hL : L ≤ 3072) (hi : i + 6 ≤ L) (hcs : cs + 1 ≤ 601024) (hsl : sl + 6 ≤ 7293034) (h1 : xs (i + 1) = a1) (h2 : xs (i + 2) = a2) {dsd : Int32} {tl : Nat} {tf : Nat → Int32} {q : jRS} {cd pt od ex : Nat} {mf af : Nat → Nat} {n : Nat} {f : Nat → Nat} {trn : Nat} {trf : Nat → Nat} {oon : Nat} {oof : Nat → Nat} {nx pl : Nat} {ln : Nat → Nat} {rf : Nat → Nat → Nat} {ic il : Nat → Nat} {ik : Nat → Bool} {iff : Nat → Nat → Nat} {pn : Nat} {M W : Nat → Nat → Nat} {s0 s1 s2 s3 : Nat → Nat} {sgc wh : Nat} {m0 m1 m2 : Nat → Nat} {rn : Nat} {rfp : Nat → Nat} {sg : Nat} {C : Nat → Nat} {gl : Nat} {gf : Nat → Nat} {fl : Nat} {ff : Nat → Nat} {mth mfw mse : Int32} {mwd : Int64} {mtd msz mto mfr mso mnu mfa mpl mro msm mln : Nat} {t w r9 KF SS bf lv9 : Nat → Nat} {mik : Nat → Bool} {su : Nat → Nat} {be : Nat → Bool} {fe my : Nat → Int32} {O9 : Nat → Nat} {S9 : Nat → Bool} {LF TF C9 rn9 rb TB : Nat → Nat} {o9 : Nat → Int64} (hR : lR tl tf q cd pt od ex mf af n f nx pl ln rf ic il ik iff sgc wh m0 m1 m2 rn rfp sg C fl ff mfw mtd mfa msm t w KF SS mik)
    (K : ∀ {dsd : Int32} {tl : Nat} {tf : Nat → Int32} {q : jRS} {cd pt od ex : Nat} {mf af : Nat → Nat} {n : Nat} {f : Nat → Nat} {trn : Nat} {trf : Nat → Nat} {oon : Nat} {oof : Nat → Nat} {nx pl : Nat} {ln : Nat → Nat} {rf : Nat → Nat → Nat} {ic il : Nat → Nat} {ik : Nat → Bool} {iff : Nat → Nat → Nat} {pn : Nat} {M W : Nat → Nat → Nat} {s0 s1 s2 s3 : Nat → Nat} {sgc wh : Nat} {m0 m1 m2 : Nat → Nat} {rn : Nat} {rfp : Nat → Nat} {sg : Nat} {C : Nat → Nat} {gl : Nat} {gf : Nat → Nat} {fl : Nat} {ff : Nat → Nat} {mth mfw mse : Int32} {mwd : Int64} {mtd msz mto mfr mso mnu mfa mpl mro msm mln : Nat} {t w r9 KF SS bf lv9 : Nat → Nat} {mik : Nat → Bool} {su : Nat → Nat} {be : Nat → Bool} {fe my : Nat → Int32} {O9 : Nat → Nat} {S9 : Nat → Bool} {LF TF C9 rn9 rb TB : Nat → Nat} {o9 : Nat → Int64}, lR tl tf q cd pt od ex mf af n f nx pl ln rf ic il ik iff sgc wh m0 m1 m2 rn rfp sg C fl ff mfw mtd mfa msm t w KF SS mik → J γ l x (lW γ ca ma oa dsd tl tf q cd pt od ex mf af n f trn trf oon oof nx pl ln rf ic il ik iff pn M W s0 s1 s2 s3 sgc wh m0 m1 m2 rn rfp sg C gl gf fl ff mth mfw mse mwd mtd msz mto mfr mso mnu mfa mpl mro msm mln t w r9 KF SS bf lv9 mik su be fe my O9 S9 LF TF C9 rn9 rb TB o9) [some (.ref b), some (.ref (ca 0)), some (.ref (ma 0)), some (.ref oa), some (.int (nI i)), none, none] [] (cs + 1) (sl + 6) 1075) : J γ l x (lW γ ca ma oa dsd tl tf q cd pt od ex mf af n f trn trf oon oof nx pl ln rf ic il ik iff pn M W s0 s1 s2 s3 sgc wh m0 m1 m2 rn rfp sg C gl gf fl ff mth mfw mse mwd mtd msz mto mfr mso mnu mfa mpl mro msm mln t w r9 KF SS bf lv9 mik su be fe my O9 S9 LF TF C9 rn9 rb TB o9) [some (.ref b), some (.ref (ca 0)), some (.ref (ma 0)), some (.ref oa), some (.int (nI i)), none, none] [] cs sl 395 := by
  obtain ⟨⟨htl, ht, hmtd⟩, ⟨hq, hmfa, hmfw⟩, hG, hI, ⟨hnx, hpl, hln, hpR, hmsm⟩, ⟨hmik, him⟩, ⟨hsgc, hPB, hPf, hPV⟩, hsg, hMV⟩ := id hR
  subst ht
  obtain rfl : tl = mtd := hmtd.symm
  subst hmfa
  subst hmfw
  obtain rfl : pl = msm := hmsm.symm
  obtain rfl : ik = mik := hmik.symm
  obtain ⟨hcd, hpt, hod, hex, hmfe, hafe⟩ := id hG
  subst hpt
  subst hod
  subst hex
  have hT := hG.tab
  have hn := hI.2.2.2.2.1
  have hfo := hI.2.2.2.2.2.2
  have hsm := g_small cd hcd
  have hf : ∀ j, j < n → f j < 24 := fun j hj => Nat.lt_of_lt_of_le (hfo j hj) hsm.2.1
  have hJ := jpl_cd hG
  have hO := jop_cd hG
  have hinv : ∀ a, a < god cd → ∀ c, c < god cd → jpl (god cd) mf (jpl (god cd) mf c a) (jop (god cd) af a) = c := fun a ha c hc => by rw [hJ, hO]; exact gP_can hcd ha hc
  have hcs0 : cs ≤ 601024 := by omega
  have hsl0 : sl ≤ 7293034 := by omega
  dsimp only [lW]
  refine J.aload_n g dL_law_395 rfl rfl ?_
  refine J.aload_n g dL_law_396 rfl rfl ?_
  refine J.iload g dL_law_397 rfl ?_
  refine J.iconstN g 1 dL_law_399 ?_
  refine J.iaddN g dL_law_400 ?_
  refine J.sld g hX (k := i + 1) (by omega) (by omega) h1 dL_law_401 ?_
  refine J.aload_n g dL_law_402 rfl rfl ?_
  refine J.iload g dL_law_403 rfl ?_
  refine J.iconstN g 2 dL_law_405 ?_
  refine J.iaddN g dL_law_406 ?_
  refine J.sld g hX (k := i + 2) (by omega) (by omega) h2 dL_law_407 ?_
  refine J.callV0 g (c_X10_add l γ _ _ _ _ _ _ _ _ _ _ _ _ _ _ _ _ _ _ _ _ _ _ _ _ hT) jy_X10_add lm_L_50 (q0 := 0) rfl jX10.1 ⟨⟨Nat.le_of_ble_eq_true rfl, Nat.le_of_ble_eq_true rfl⟩, hcs0, hsl0⟩ (Nat.le_of_ble_eq_true rfl) rfl [0, 6, 7, 8] rfl rfl dL_law_408 ?_
  intro _ _
  dsimp only [jpush]
  refine J.aload_n g dL_law_411 rfl rfl ?_
  refine J.aload_n g dL_law_412 rfl rfl ?_
  refine J.iload g dL_law_413 rfl ?_
  refine J.iconstN g 1 dL_law_415 ?_
  refine J.iaddN g dL_law_416 ?_
  refine J.sld g hX (k := i + 1) (by omega) (by omega) h1 dL_law_417 ?_
  refine J.aload_n g dL_law_418 rfl rfl ?_
  refine J.iload g dL_law_419 rfl ?_
  refine J.iconstN g 2 dL_law_421 ?_
  refine J.iaddN g dL_law_422 ?_
  refine J.sld g hX (k := i + 2) (by omega) (by omega) h2 dL_law_423 ?_
  refine J.callV g (c_X11_add l γ _ _ _ _ _ _ _ _ _ _ _ _ _ _ _ _ _ _ _ _ _ _ _ _ _ _ _ _ _ _ _ _ _ _ _ _ _ _ _ _ _ _ hI) jy_X11_add lm_L_54 (q0 := 86) rfl jX11.1 ⟨⟨Nat.le_of_ble_eq_true rfl, Nat.le_of_ble_eq_true rfl⟩, hcs0, hsl0⟩ (Nat.le_of_ble_eq_true rfl) rfl [86, 88] rfl (fun _ => rfl) rfl dL_law_424 ?_
  intro _ _
  dsimp only [jput, List.set_cons_zero, List.set_cons_succ, Option.toList, List.append, List.cons_append, List.nil_append, List.append_nil]
  refine J.icmp_eq g dL_law_427 (tgt := 1075) (by decide) (fun c_427 => ?_) (fun c_427 => (c_427 (jadd_t' hJ _ _)).elim)
  exact J.widen (Nat.le_add_right cs 1) (Nat.le_add_right sl 6) (K (hR))
