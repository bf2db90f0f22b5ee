/-! type, wipe, undo as operations -/
theorem X_type_bad' {t b : Int32} (h : (rg t 3 && rg b 256) = false) (μ : am_M) : f_X10_type [vR 0, vI t, vI b] μ = some (some (vI (-2)), μ) := by
  refine X_type_bad (fun h9 => ?_) μ
  have h1 : rg t 3 = true := by unfold rg; rw [decide_eq_true h9.1.1, decide_eq_true (show t < nI 3 from h9.1.2)]; rfl
  have h2 : rg b 256 = true := by unfold rg; rw [decide_eq_true h9.2.1, decide_eq_true (show b < nI 256 from h9.2.2)]; rfl
  rw [h1, h2] at h
  cases h
theorem Op_same {fX fM : am_F} {as : List AV} {σ : Sg} {μX μM : am_M} {v : AV} (hw : wfS σ) (hX : RX σ μX) (hM : RM σ μM) (h1 : fX (vR 0 :: as) μX = some (some v, μX)) (h2 : fM (vR 0 :: as) μM = some (some v, μM)) : Op fX fM as σ μX μM := ⟨v, μX, μM, σ, h1, h2, hw, hX, hM, Ch.rf⟩
theorem sT_pT (σ : Sg) (t : Nat) (l : List Nat) (u : Nat) : sT (pT σ t l) u = if u = t then l else sT σ u := rfl
theorem wfS_pT {σ : Sg} {t : Nat} {l : List Nat} (hw : wfS σ) (hl : t < 3 → l.length ≤ cap t ∧ ∀ b ∈ l, b < 256) : wfS (pT σ t l) := by
  refine ⟨fun u hu => ?_, hw.2⟩
  rw [sT_pT]
  by_cases h : u = t
  · subst h
    rw [if_pos rfl]
    exact hl hu
  · rw [if_neg h]
    exact hw.1 u hu
theorem op_type {σ : Sg} {μX μM : am_M} (hw : wfS σ) (hX : RX σ μX) (hM : RM σ μM) (t b : Int32) : Op f_X10_type f_X11_type [vI t, vI b] σ μX μM := by
  rcases rg_cases t (n := 3) (by decide) with h1 | ⟨t, ht, rfl⟩
  · exact Op_same hw hX hM (X_type_bad' (by rw [h1]; rfl) μX) (M_type_bad (by rw [h1]; rfl) μM)
  rcases rg_cases b (n := 256) (by decide) with h2 | ⟨b, hb, rfl⟩
  · exact Op_same hw hX hM (X_type_bad' (by rw [h2, Bool.and_false]) μX) (M_type_bad (by rw [h2, Bool.and_false]) μM)
  obtain ⟨x1, x2, x3⟩ := hX.1 t ht
  obtain ⟨m1, m2⟩ := hM.1 t ht
  obtain ⟨w1, w2⟩ := hw.1 t ht
  have hcap := cap_le t
  by_cases hfull : (sT σ t).length = cap t
  · exact Op_same hw hX hM (X_type_full ht hb x2 x1 (by omega) (by omega)) (M_type_full ht hb (by rw [m1, hfull]))
  · have hlt : (sT σ t).length < cap t := by omega
    have hlen : (sT σ t ++ [b]).length = (sT σ t).length + 1 := by simp
    refine ⟨_, _, _, pT σ t (sT σ t ++ [b]), X_type_ok ht hb x2 x1 hlt (by omega), M_type_ok ht hb m1 hlt, wfS_pT hw (fun _ => ⟨by rw [hlen]; omega, fun c hc => ?_⟩), ⟨fun u hu => ?_, ?_, ?_, ?_, ?_⟩, ⟨fun u hu => ?_, ?_, ?_, ?_, ?_, ?_⟩, Or.inr (am_up_eq _ _ _ _)⟩
    · rcases List.mem_append.mp hc with h | h
      · exact w2 c h
      · rw [List.mem_singleton.mp h]; exact hb
    · rw [sT_pT]
      by_cases h : u = t
      · subst h
        rw [if_pos rfl, hlen]
        refine ⟨?_, ?_, fun i c hc => ?_⟩
        · rw [am_up_ne _ _ (by omega), am_up_ne _ _ (by omega), am_up_ne _ _ (by omega)]; exact x1
        · rw [am_up_ne _ _ (by omega), am_up_eq]
        · rw [am_up_ne _ _ (by omega), am_up_ne _ _ (by omega)]
          rcases gE_app hc with h | ⟨rfl, rfl⟩
          · have := gE_lt h
            rw [am_up_ne _ _ (by omega)]
            exact x3 i c h
          · rw [am_up_eq]
      · rw [if_neg h]
        obtain ⟨y1, y2, y3⟩ := hX.1 u hu
        exact ⟨by rw [am_up_ne _ _ (by omega), am_up_ne _ _ (by omega), am_up_ne _ _ (by omega)]; exact y1, by rw [am_up_ne _ _ (by omega), am_up_ne _ _ (by omega), am_up_ne _ _ (by omega)]; exact y2, fun i c hc => by rw [am_up_ne _ _ (by omega), am_up_ne _ _ (by omega), am_up_ne _ _ (by omega)]; exact y3 i c hc⟩
    · exact hX.2.1.kept (fun a c h1 h2 => by rw [am_up_ne _ _ (by omega), am_up_ne _ _ (by omega), am_up_ne _ _ (by omega)])
    · exact hX.2.2.1.kept (fun a c h1 h2 => by rw [am_up_ne _ _ (by omega), am_up_ne _ _ (by omega), am_up_ne _ _ (by omega)])
    · exact hX.2.2.2.1.kept (fun a c h1 h2 => by rw [am_up_ne _ _ (by omega), am_up_ne _ _ (by omega), am_up_ne _ _ (by omega)])
    · rw [am_up_ne _ _ (by omega), am_up_ne _ _ (by omega), am_up_ne _ _ (by omega)]; exact hX.2.2.2.2
    · rw [sT_pT]
      by_cases h : u = t
      · subst h
        rw [if_pos rfl, hlen]
        refine ⟨am_up_eq _ _ _ _, fun i c hc => ?_⟩
        rw [am_up_ne _ _ (by omega)]
        rcases gE_app hc with h | ⟨rfl, rfl⟩
        · have := gE_lt h
          rw [am_up_ne _ _ (by omega)]
          exact m2 i c h
        · rw [am_up_eq]
      · rw [if_neg h]
        obtain ⟨y1, y2⟩ := hM.1 u hu
        have hu9 := (hw.1 u hu).1
        have hc9 := cap_le u
        exact ⟨by rw [am_up_ne _ _ (by omega), am_up_ne _ _ (by omega)]; exact y1, fun i c hc => by have := gE_lt hc; rw [am_up_ne _ _ (by omega), am_up_ne _ _ (by omega)]; exact y2 i c hc⟩
    · exact hM.2.1.kept (by rw [am_up_ne _ _ (by omega), am_up_ne _ _ (by omega)]) (fun c => by rw [am_up_ne _ _ (by omega), am_up_ne _ _ (by omega)])
    · exact hM.2.2.1.kept (by rw [am_up_ne _ _ (by omega), am_up_ne _ _ (by omega)]) (fun c => by rw [am_up_ne _ _ (by omega), am_up_ne _ _ (by omega)])
    · exact hM.2.2.2.1.kept (fun a c h1 h2 => by rw [am_up_ne _ _ (by omega), am_up_ne _ _ (by omega)])
    · rw [am_up_ne _ _ (by omega), am_up_ne _ _ (by omega)]; exact hM.2.2.2.2.1
    · rw [am_up_ne _ _ (by omega), am_up_ne _ _ (by omega)]; exact hM.2.2.2.2.2
