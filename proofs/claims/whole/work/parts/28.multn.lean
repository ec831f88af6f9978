/-! the counting by the group's code alone -/
def jaf (cd a : Nat) : Nat := ((List.range 24).find? (fun b => decide (gpl cd a b = 0))).getD 0
theorem jop_cd {cd pt od ex : Nat} {mf af : Nat → Nat} (h : gIs cd pt od ex mf af) : jop od af = jop (god cd) (jaf cd) := by
  funext a
  obtain ⟨h1, h2, h3, h4, h5, h6⟩ := h
  subst h3
  unfold jop
  by_cases z : a < god cd
  · rw [if_pos z, if_pos z]
    obtain ⟨b, hb, hz, hu⟩ := g_inv cd h1 a z
    have h24 := (g_small cd h1).2.1
    rw [h6 a b z hb hz]
    unfold jaf
    cases hf : (List.range 24).find? (fun b => decide (gpl cd a b = 0)) with
    | none =>
      have := List.find?_eq_none.mp hf b (List.mem_range.mpr (by omega))
      simp [hz] at this
    | some c =>
      have hc := List.find?_some hf
      have hc : gpl cd a c = 0 := by simpa using hc
      by_cases hcl : c < god cd
      · exact (hu c hcl hc).symm
      · exfalso
        obtain ⟨-, l1, l2, hl, hn⟩ := List.find?_eq_some_iff_append.mp hf
        have hlen : l1.length = c := by
          have h9 : (List.range 24)[l1.length]? = some c := by rw [hl]; simp
          have h8 : l1.length < 24 := by
            have := congrArg List.length hl
            simp at this
            omega
          rw [List.getElem?_range h8] at h9
          exact Option.some.inj h9
        have h7 : b ∈ l1 := by
          have h9 : (List.range 24)[b]? = some b := List.getElem?_range (by omega)
          rw [hl, List.getElem?_append_left (by omega)] at h9
          exact List.mem_of_getElem? h9
        have := hn b h7
        simp [hz] at this
  · rw [if_neg z, if_neg z]
theorem jmoved_pl {od od' : Nat} {mf mf' : Nat → Nat} {s g : Nat} (h : jpl od mf = jpl od' mf') : ∀ e, jmoved od mf s g e = jmoved od' mf' s g e
  | 0 => rfl
  | e + 1 => by unfold jmoved; rw [jmoved_pl h e, h]
theorem mgr_pl {od : Nat} {mf mf' af af' : Nat → Nat} (h : jpl od mf = jpl od mf') (h2 : jop od af = jop od af') : ∀ d L fr sm T, mgr od mf af d L fr sm T = mgr od mf' af' d L fr sm T
  | 0, _, _, _, _ => rfl
  | d + 1, L, fr, sm, T => by
    unfold mgr
    rw [h2]
    congr 1
    funext g T
    split
    · rfl
    · rw [jmoved_pl h od, mgr_pl h h2 d]
def mAg (T U : mST) : Prop := (∀ k, k < 13 → T.1 k = U.1 k) ∧ T.2 = U.2
theorem mstep_ag {L : List Nat} {T U : mST} (hL : L.length < 13) (h : mAg T U) : mAg (mstep L T) (mstep L U) := by
  refine ⟨fun k hk => ?_, ?_⟩
  · show va_up T.1 L.length (T.1 L.length + 1) k = va_up U.1 L.length (U.1 L.length + 1) k
    unfold va_up
    rw [h.1 k hk, h.1 _ hL]
  · show (if T.2.length < L.length then L else T.2) = (if U.2.length < L.length then L else U.2)
    rw [h.2]
theorem mgl_ag {F : Nat → mST → mST} (hF : ∀ g T U, mAg T U → mAg (F g T) (F g U)) : ∀ n g T U, mAg T U → mAg (mgl F n g T) (mgl F n g U)
  | 0, _, _, _, h => h
  | n + 1, g, _, _, h => mgl_ag hF n (g + 1) _ _ (hF g _ _ h)
theorem mgr_ag {od : Nat} {mf af : Nat → Nat} : ∀ d L fr sm T U, L.length + d = 12 → mAg T U → mAg (mgr od mf af d L fr sm T) (mgr od mf af d L fr sm U)
  | 0, L, _, _, T, U, hL, h => mstep_ag (by omega) h
  | d + 1, L, fr, sm, T, U, hL, h => by
    unfold mgr
    refine mgl_ag (fun g T U h => ?_) _ _ _ _ (mstep_ag (by omega) h)
    split
    · exact h
    · exact mgr_ag d _ _ _ _ _ (by rw [List.length_append, List.length_singleton]; omega) h
/-- all of a group -/
def mT (cd : Nat) : mST := mgr (god cd) (jmf cd) (jaf cd) 12 [] 1 0 (fun _ => 0, [])
def mPV (cd : Nat) (C : Nat → Nat) (fl : Nat) (ff : Nat → Nat) : Prop := (∀ k, k < 13 → C k = (mT cd).1 k) ∧ fl = (mT cd).2.length ∧ mrow (mT cd).2 ff ∧ fl ≤ 12
theorem mPV_of {cd pt od ex : Nat} {mf af ff : Nat → Nat} (hG : gIs cd pt od ex mf af) {T : mST} (hC : ∀ k, k < 13 → T.1 k = 0) (h2 : T.2 = []) (hr : mrow (mgr od mf af 12 [] 1 0 T).2 ff) (hl : (mgr od mf af 12 [] 1 0 T).2.length ≤ 12) : mPV cd (mgr od mf af 12 [] 1 0 T).1 (mgr od mf af 12 [] 1 0 T).2.length ff := by
  have h3 := hG.2.2.1
  have e1 := jpl_cd hG
  have e2 := jop_cd hG
  subst h3
  have ha : mAg (mgr (god cd) mf af 12 [] 1 0 T) (mT cd) := by
    rw [mgr_pl e1 e2]
    exact mgr_ag 12 [] 1 0 _ _ rfl ⟨hC, h2⟩
  exact ⟨ha.1, by rw [ha.2], by rw [← ha.2]; exact hr, hl⟩
