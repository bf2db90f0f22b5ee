/-! sheet as an operation -/
theorem fillR_ne {μ : am_M} {a i x y : Nat} {v : Int32} (h : x ≠ a) : fillR μ a i v x y = μ x y := by
  unfold fillR am_ur
  rw [if_neg h]
theorem fillR_in {μ : am_M} {a i y : Nat} {v : Int32} (h : y < i) : fillR μ a i v a y = v := by
  unfold fillR am_ur
  rw [if_pos rfl, if_pos h]
theorem zerR_ne {μ : am_M} {s i x y : Nat} (h : x ≠ 3 ∨ y < 60 * s ∨ 60 * s + i ≤ y) : zerR μ s i x y = μ x y := by
  unfold zerR am_ur
  by_cases h3 : x = 3
  · rw [if_pos h3, if_neg (by omega), h3]
  · rw [if_neg h3]
theorem zerR_in {μ : am_M} {s i y : Nat} (h : y < i) : zerR μ s i 3 (60 * s + y) = 0 := by
  unfold zerR am_ur
  rw [if_pos rfl, if_pos (by omega)]
theorem gE_rep {n i : Nat} {v w : Int32} (h : (List.replicate n v)[i]? = some w) : i < n ∧ w = v := by
  have hl := gE_lt h
  rw [List.length_replicate] at hl
  rw [List.getElem?_replicate, if_pos hl] at h
  exact ⟨hl, (Option.some.inj h).symm⟩
theorem op_sheet {σ : Sg} {μX μM : am_M} (hw : wfS σ) (hX : RX σ μX) (hM : RM σ μM) (s f n : Int32) : Op f_X10_sheet f_X11_sheet [vI s, vI f, vI n] σ μX μM := by
  cases hr : rg s 4 && rg f 3 && !decide (60 < n)
  · exact Op_same hw hX hM (X_sheet_bad hr μX) (M_sheet_bad hr μM)
  simp only [Bool.and_eq_true, Bool.not_eq_true', decide_eq_false_iff_not] at hr
  obtain ⟨⟨r1, r2⟩, r3⟩ := hr
  by_cases h4 : n < 0
  · exact Op_find hw hX hM (X_sheet_neg r1 r2 r3 h4 μX) (M_sheet_neg r1 r2 r3 h4 μM)
  rcases rg_cases s (n := 4) (by decide) with h | ⟨s, hs, rfl⟩
  · rw [r1] at h; cases h
  rcases rg_cases f (n := 3) (by decide) with h | ⟨f, hf, rfl⟩
  · rw [r2] at h; cases h
  obtain ⟨n, hn31, rfl⟩ := nI_of h4
  have hn : n ≤ 60 := by
    rcases Nat.lt_or_ge 60 n with h | h
    · exact absurd (show nI 60 < nI n from nI_lt h hn31) r3
    · exact h
  refine ⟨_, _, _, pF σ s (false, f, List.replicate n 0), X_sheet_ok hs r1 r2 hn μX, M_sheet_ok hs r1 r2 hn μM, ⟨hw.1, hw.2.1, hw.2.2.1, fun u hu => ?_⟩, ⟨?_, ?_, ?_, fun u hu => ?_, ?_⟩, ⟨?_, ?_, ?_, fun u hu => ?_, ?_, ?_⟩, Or.inl ⟨rfl, rfl, fun a c h3 h4 => by rw [fillR_ne (by omega)]; rw [am_up_ne _ _ (by omega), am_up_ne _ _ (by omega), am_up_ne _ _ (by omega)], by rw [fillR_ne (by omega)]; rw [am_up_ne _ _ (by omega), am_up_ne _ _ (by omega), am_up_ne _ _ (by omega)]⟩⟩
  · rw [sF_pF]
    by_cases h : u = s
    · subst h; rw [if_pos rfl]; exact ⟨hf, by rw [List.length_replicate]; exact hn⟩
    · rw [if_neg h]; exact hw.2.2.2 u hu
  · exact hX.1.kept (fun a c h3 h4 => by rw [fillR_ne (by omega)]; rw [am_up_ne _ _ (by omega), am_up_ne _ _ (by omega), am_up_ne _ _ (by omega)])
  · exact hX.2.1.kept (fun a c h3 h4 => by rw [fillR_ne (by omega)]; rw [am_up_ne _ _ (by omega), am_up_ne _ _ (by omega), am_up_ne _ _ (by omega)])
  · exact hX.2.2.1.kept (fun a c h3 h4 => by rw [fillR_ne (by omega)]; rw [am_up_ne _ _ (by omega), am_up_ne _ _ (by omega), am_up_ne _ _ (by omega)])
  · rw [sF_pF]
    obtain ⟨y1, y2, y3, y4⟩ := hX.2.2.2.1 u hu
    by_cases h : u = s
    · subst h
      rw [if_pos rfl]
      refine ⟨?_, fun _ => ?_, ?_, fun i v hv => ?_⟩
      · rw [fillR_ne (by omega), am_up_ne _ _ (by omega), am_up_ne _ _ (by omega), am_up_eq]; rfl
      · rw [fillR_ne (by omega), am_up_ne _ _ (by omega), am_up_eq]
      · rw [fillR_ne (by omega), am_up_eq, List.length_replicate]
      · obtain ⟨h1, rfl⟩ := gE_rep hv
        exact fillR_in (by omega)
    · rw [if_neg h]
      exact ⟨by rw [fillR_ne (by omega)]; rw [am_up_ne _ _ (by omega), am_up_ne _ _ (by omega), am_up_ne _ _ (by omega)]; exact y1, fun h9 => by rw [fillR_ne (by omega)]; rw [am_up_ne _ _ (by omega), am_up_ne _ _ (by omega), am_up_ne _ _ (by omega)]; exact y2 h9, by rw [fillR_ne (by omega)]; rw [am_up_ne _ _ (by omega), am_up_ne _ _ (by omega), am_up_ne _ _ (by omega)]; exact y3, fun i v hv => by rw [fillR_ne (by omega)]; rw [am_up_ne _ _ (by omega), am_up_ne _ _ (by omega), am_up_ne _ _ (by omega)]; exact y4 i v hv⟩
  · rw [fillR_ne (by omega)]; rw [am_up_ne _ _ (by omega), am_up_ne _ _ (by omega), am_up_ne _ _ (by omega)]; exact hX.2.2.2.2
  · exact hM.1.kept (fun a c h3 => by rw [zerR_ne (by omega)]; rw [am_up_ne _ _ (by omega), am_up_ne _ _ (by omega)])
  · exact hM.2.1.kept (by rw [zerR_ne (by omega)]; rw [am_up_ne _ _ (by omega), am_up_ne _ _ (by omega)]) (fun c => by rw [zerR_ne (by omega)]; rw [am_up_ne _ _ (by omega), am_up_ne _ _ (by omega)])
  · exact hM.2.2.1.kept (by rw [zerR_ne (by omega)]; rw [am_up_ne _ _ (by omega), am_up_ne _ _ (by omega)]) (fun c => by rw [zerR_ne (by omega)]; rw [am_up_ne _ _ (by omega), am_up_ne _ _ (by omega)])
  · rw [sF_pF]
    obtain ⟨y1, y2, y3⟩ := hM.2.2.2.1 u hu
    have hu4 := (hw.2.2.2 u hu).2
    by_cases h : u = s
    · subst h
      rw [if_pos rfl]
      refine ⟨?_, ?_, fun i v hv => ?_⟩
      · rw [zerR_ne (by omega), am_up_ne _ _ (by omega), am_up_eq]; rfl
      · rw [zerR_ne (by omega), am_up_eq, List.length_replicate]
      · obtain ⟨h1, rfl⟩ := gE_rep hv
        exact zerR_in h1
    · rw [if_neg h]
      exact ⟨by rw [zerR_ne (by omega)]; rw [am_up_ne _ _ (by omega), am_up_ne _ _ (by omega)]; exact y1, by rw [zerR_ne (by omega)]; rw [am_up_ne _ _ (by omega), am_up_ne _ _ (by omega)]; exact y2, fun i v hv => by have := gE_lt hv; rw [zerR_ne (by omega)]; rw [am_up_ne _ _ (by omega), am_up_ne _ _ (by omega)]; exact y3 i v hv⟩
  · rw [zerR_ne (by omega)]; rw [am_up_ne _ _ (by omega), am_up_ne _ _ (by omega)]; exact hM.2.2.2.2.1
  · rw [zerR_ne (by omega)]; rw [am_up_ne _ _ (by omega), am_up_ne _ _ (by omega)]; exact hM.2.2.2.2.2
