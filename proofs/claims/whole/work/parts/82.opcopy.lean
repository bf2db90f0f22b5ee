/-! copy as an operation: the states -/
theorem R_copy {σ : Sg} {μX μM : am_M} (hw : wfS σ) (hX : RX σ μX) (hM : RM σ μM) {s t a b c : Nat} (hs : s < 4) (ht : t < 4) (ha : a + c ≤ (sF σ s).2.2.length) (hb : b + c ≤ (sF σ t).2.2.length) : RX (pF σ t ((sF σ t).1, (sF σ t).2.1, spl (sF σ s).2.2 (sF σ t).2.2 a b c)) (am_ur μX (95 + 2 * t) (va_cpy (μX (95 + 2 * s)) (μX (95 + 2 * t)) a b c)) ∧ RM (pF σ t ((sF σ t).1, (sF σ t).2.1, spl (sF σ s).2.2 (sF σ t).2.2 a b c)) (pasR (movR μM (60 * s + a) c) (60 * t + b) c) := by
  have hs4 := (hw.2.2.2 s hs).2
  have ht4 := (hw.2.2.2 t ht).2
  have n1 : ∀ x y, x ≠ 95 + 2 * t → am_ur μX (95 + 2 * t) (va_cpy (μX (95 + 2 * s)) (μX (95 + 2 * t)) a b c) x y = μX x y := fun x y h => by unfold am_ur; rw [if_neg h]
  have n2 : ∀ x y, x ≠ 3 → x ≠ 4 → pasR (movR μM (60 * s + a) c) (60 * t + b) c x y = μM x y := fun x y h h9 => by unfold pasR movR am_ur; rw [if_neg h, if_neg h9]
  have n3 : ∀ y, y < 60 * t + b ∨ 60 * t + b + c ≤ y → pasR (movR μM (60 * s + a) c) (60 * t + b) c 3 y = μM 3 y := fun y h => by
    unfold pasR am_ur
    rw [if_pos rfl, if_neg (by omega), movR_3]
  have n4 : ∀ x, x < c → pasR (movR μM (60 * s + a) c) (60 * t + b) c 3 (60 * t + b + x) = μM 3 (60 * s + a + x) := fun x h => by
    unfold pasR am_ur
    rw [if_pos rfl, if_pos (by omega), show 60 * t + b + x - (60 * t + b) = x by omega]
    unfold movR am_ur
    rw [if_pos rfl, if_pos h]
  refine ⟨⟨?_, ?_, ?_, fun u hu => ?_, ?_⟩, ⟨?_, ?_, ?_, fun u hu => ?_, ?_, ?_⟩⟩
  · exact hX.1.kept (fun x y h3 h4 => n1 _ _ (by omega))
  · exact hX.2.1.kept (fun x y h3 h4 => n1 _ _ (by omega))
  · exact hX.2.2.1.kept (fun x y h3 h4 => n1 _ _ (by omega))
  · rw [sF_pF]
    obtain ⟨y1, y2, y3, y4⟩ := hX.2.2.2.1 u hu
    by_cases h : u = t
    · subst h
      rw [if_pos rfl]
      refine ⟨by rw [n1 _ _ (by omega)]; exact y1, fun h9 => by rw [n1 _ _ (by omega)]; exact y2 h9, by rw [n1 _ _ (by omega), spl_len]; exact y3, fun i v hv => ?_⟩
      obtain ⟨hl, rfl⟩ := spl_get hv
      unfold am_ur
      rw [if_pos rfl]
      by_cases hin : b ≤ i ∧ i < b + c
      · rw [if_pos hin, pk_cpy_in hin.1 hin.2]
        exact (hX.2.2.2.1 s hs).2.2.2 _ _ (getD_of (by omega))
      · rw [if_neg hin, pk_cpy_out (by omega)]
        exact y4 _ _ (getD_of hl)
    · rw [if_neg h]
      exact ⟨by rw [n1 _ _ (by omega)]; exact y1, fun h9 => by rw [n1 _ _ (by omega)]; exact y2 h9, by rw [n1 _ _ (by omega)]; exact y3, fun i v hv => by rw [n1 _ _ (by omega)]; exact y4 i v hv⟩
  · rw [n1 _ _ (by omega)]; exact hX.2.2.2.2
  · exact hM.1.kept (fun x y h3 => n2 _ _ (by omega) (by omega))
  · exact hM.2.1.kept (n2 _ _ (by omega) (by omega)) (fun y => n2 _ _ (by omega) (by omega))
  · exact hM.2.2.1.kept (n2 _ _ (by omega) (by omega)) (fun y => n2 _ _ (by omega) (by omega))
  · rw [sF_pF]
    obtain ⟨y1, y2, y3⟩ := hM.2.2.2.1 u hu
    have hu4 := (hw.2.2.2 u hu).2
    by_cases h : u = t
    · subst h
      rw [if_pos rfl]
      refine ⟨by rw [n2 _ _ (by omega) (by omega)]; exact y1, by rw [n2 _ _ (by omega) (by omega), spl_len]; exact y2, fun i v hv => ?_⟩
      obtain ⟨hl, rfl⟩ := spl_get hv
      by_cases hin : b ≤ i ∧ i < b + c
      · rw [if_pos hin, show 60 * u + i = 60 * u + b + (i - b) by omega, n4 _ (by omega), show 60 * s + a + (i - b) = 60 * s + (a + (i - b)) by omega]
        exact (hM.2.2.2.1 s hs).2.2 _ _ (getD_of (by omega))
      · rw [if_neg hin, n3 _ (by omega)]
        exact y3 _ _ (getD_of hl)
    · rw [if_neg h]
      exact ⟨by rw [n2 _ _ (by omega) (by omega)]; exact y1, by rw [n2 _ _ (by omega) (by omega)]; exact y2, fun i v hv => by have := gE_lt hv; rw [n3 _ (by omega)]; exact y3 i v hv⟩
  · rw [n2 _ _ (by omega) (by omega)]; exact hM.2.2.2.2.1
  · rw [n2 _ _ (by omega) (by omega)]; exact hM.2.2.2.2.2
