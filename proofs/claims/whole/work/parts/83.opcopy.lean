/-! copy as an operation -/
theorem wf_copy {σ : Sg} (hw : wfS σ) (s t a b c : Nat) : wfS (pF σ t ((sF σ t).1, (sF σ t).2.1, spl (sF σ s).2.2 (sF σ t).2.2 a b c)) := by
  refine ⟨hw.1, hw.2.1, hw.2.2.1, fun u hu => ?_⟩
  rw [sF_pF]
  by_cases h : u = t
  · subst h
    rw [if_pos rfl]
    exact ⟨(hw.2.2.2 u hu).1, by rw [spl_len]; exact (hw.2.2.2 u hu).2⟩
  · rw [if_neg h]
    exact hw.2.2.2 u hu
theorem op_copy {σ : Sg} {μX μM : am_M} (hw : wfS σ) (hX : RX σ μX) (hM : RM σ μM) (s i t j n : Int32) : Op f_X10_copy f_X11_copy [vI s, vI i, vI t, vI j, vI n] σ μX μM := by
  cases hr : rg s 4 && rg t 4
  · exact Op_same hw hX hM (X_copy_bad hr i j n μX) (M_copy_bad hr i j n μM)
  simp only [Bool.and_eq_true] at hr
  rcases rg_cases s (n := 4) (by decide) with h | ⟨s, hs, rfl⟩
  · rw [hr.1] at h; cases h
  rcases rg_cases t (n := 4) (by decide) with h | ⟨t, ht, rfl⟩
  · rw [hr.2] at h; cases h
  obtain ⟨x1, x2, x3, x4⟩ := hX.2.2.2.1 s hs
  obtain ⟨u1, u2, u3, u4⟩ := hX.2.2.2.1 t ht
  obtain ⟨m1, m2, m3⟩ := hM.2.2.2.1 s hs
  obtain ⟨k1, k2, k3⟩ := hM.2.2.2.1 t ht
  obtain ⟨ws1, ws2⟩ := hw.2.2.2 s hs
  obtain ⟨wt1, wt2⟩ := hw.2.2.2 t ht
  have neg1 : ∀ {x : Int32}, x = -1 → (x < 0) = True := fun h => by rw [h]; exact eq_true (by decide)
  have pos1 : ∀ {x : Int32} {f : Nat}, x = nI f → f < 3 → (x < 0) = False := fun h hf => by rw [h]; exact eq_false (nI_pos (by omega))
  cases hl : (sF σ s).1
  · rw [hl] at x1 m1
    cases hk : (sF σ t).1
    · rw [hk] at u1 k1
      have x2 := x2 hl
      have u2 := u2 hk
      have m1 : μM 1 s = nI (sF σ s).2.1 := m1
      have k1 : μM 1 t = nI (sF σ t).2.1 := k1
      by_cases hf : (sF σ s).2.1 = (sF σ t).2.1
      · have e1 : (μX (94 + 2 * s) 1 = μX (94 + 2 * t) 1) = True := eq_true (by rw [x2, u2, hf])
        have e2 : (μM 1 s = μM 1 t) = True := eq_true (by rw [m1, k1, hf])
        cases hrun2 : hrun i n (sF σ s).2.2.length && hrun j n (sF σ t).2.2.length
        · have hC := copy_idx ws2 wt2 hrun2
          rw [← m2, ← k2] at hC
          exact Op_find hw hX hM (X_copy_index hs ht hr.1 hr.2 x1 u1 e1 x3 u3 hrun2) (M_copy_index hs ht hr.1 hr.2 (pos1 m1 ws1) (pos1 k1 wt1) e2 hC)
        · simp only [Bool.and_eq_true] at hrun2
          obtain ⟨a, c, rfl, rfl, hac⟩ := hrun_t ws2 hrun2.1
          obtain ⟨b, c', rfl, ec, hbc⟩ := hrun_t wt2 hrun2.2
          have := (nI_eq (show c < 2 ^ 31 by omega) (show c' < 2 ^ 31 by omega)).mp ec
          subst this
          obtain ⟨r1, r2⟩ := R_copy hw hX hM hs ht hac hbc
          exact ⟨vI 1, _, _, _, X_copy_ok hs ht hr.1 hr.2 x1 u1 e1 x3 u3 ws2 wt2 hac hbc, M_copy_ok hs ht hr.1 hr.2 (pos1 m1 ws1) (pos1 k1 wt1) e2 m2 k2 ws2 wt2 hac hbc, wf_copy hw s t a b c, r1, r2, Or.inl ⟨rfl, rfl, fun x y h3 h4 => by unfold am_ur; rw [if_neg (by omega)], by unfold am_ur; rw [if_neg (by omega)]⟩⟩
      · have e1 : (μX (94 + 2 * s) 1 = μX (94 + 2 * t) 1) = False := eq_false (by rw [x2, u2, nI_eq (by omega) (by omega)]; exact hf)
        have e2 : (μM 1 s = μM 1 t) = False := eq_false (by rw [m1, k1, nI_eq (by omega) (by omega)]; exact hf)
        exact Op_find hw hX hM (X_copy_store hs ht hr.1 hr.2 x1 u1 e1 i j n) (M_copy_store hs ht hr.1 hr.2 (pos1 m1 ws1) (pos1 k1 wt1) e2 i j n)
    · rw [hk] at u1 k1
      exact Op_find hw hX hM (X_copy_null hs ht hr.1 hr.2 x1 u1 rfl i j n) (M_copy_null hs ht hr.1 hr.2 (Or.inr ⟨pos1 m1 ws1, neg1 k1⟩) i j n)
  · rw [hl] at x1 m1
    exact Op_find hw hX hM (X_copy_null hs ht hr.1 hr.2 x1 u1 (by simp) i j n) (M_copy_null hs ht hr.1 hr.2 (Or.inl (neg1 m1)) i j n)
