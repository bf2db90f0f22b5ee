/-! the class: what it works out of texts and events -/
theorem parsed_wf' (T : List Nat) : wfD (parsed T) := by
  cases h : pfault T with
  | none => exact parsed_wf h
  | some j =>
    have e : parsed T = p0.1 := by unfold parsed; rw [h]
    rw [e]
    exact ⟨by decide, fun _ => Nat.le_of_ble_eq_true rfl, fun _ => Nat.le_of_ble_eq_true rfl, fun _ => Nat.le_of_ble_eq_true rfl, fun _ _ => Nat.le_of_ble_eq_true rfl, fun s hs => absurd hs (by simp [p0, dn])⟩
def oD (σ : Sg) : Dd := parsed (sT σ 0)
def oT (σ : Sg) : Nat → Nat := td (sT σ 1)
def oH (σ : Sg) : Nat → Nat → Nat × Bool := hgT (oD σ) (sE σ)
theorem td_lt (T : List Nat) (h : Nat) : td T h < 10 := by
  unfold td
  split
  · rename_i hl
    have := snd_in hl
    omega
  · omega
theorem oH_lt {σ : Sg} (hw : wfS σ) (s h : Nat) : (oH σ s h).1 < 10 := by
  unfold oH hgT
  rw [hng_B]
  exact hnB_lt hw.2.1 ((parsed_wf' _).2.1 s)
def Fresh (σ : Sg) (μ : am_M) : Prop := μ 1 3 = oI (pfault (sT σ 0)) ∧ μ 3 3 = oI (beyond (sT σ 1) 48 57) ∧ μ 5 3 = oI (beyond (sT σ 2) 97 104) ∧ xD (oD σ) μ ∧ xO (oD σ) μ ∧ xC (oD σ) μ ∧ (∀ h, h < 20 → μ 14 h = nI (oT σ h)) ∧ xS 27 (dn (oD σ)) (oD σ) (oT σ) (oH σ) μ ∧ xW 77 (wsz (oD σ) (oT σ) (oH σ) (sT σ 2)) (whr (oD σ) (oT σ) (oH σ) (sT σ 2)) μ
theorem xS.kept {base n : Nat} {D : Dd} {t : Nat → Nat} {H : Nat → Nat → Nat × Bool} {μ μ' : am_M} (h : xS base n D t H μ) (hn : n ≤ 8) (k : ∀ a b, base ≤ a → a < base + 24 → μ' a b = μ a b) : xS base n D t H μ' := fun s hs u hu => ⟨by rw [k _ _ (by omega) (by omega)]; exact (h s hs u hu).1, by rw [k _ _ (by omega) (by omega)]; exact (h s hs u hu).2⟩
theorem xW.kept {c n : Nat} {f : Nat → Nat} {μ μ' : am_M} (h : xW c n f μ) (k : ∀ a b, c ≤ a → a < c + 2 → μ' a b = μ a b) : xW c n f μ' := ⟨by rw [k _ _ (by omega) (by omega)]; exact h.1, fun i hi => by rw [k _ _ (by omega) (by omega)]; exact h.2 i hi⟩
theorem Fresh.kept {σ σ' : Sg} {μ μ' : am_M} (h : Fresh σ μ) (h1 : sT σ' = sT σ) (h2 : sE σ' = sE σ) (k : ∀ a b, (1 ≤ a ∧ a < 15) ∨ (27 ≤ a ∧ a < 51) ∨ a = 77 ∨ a = 78 → μ' a b = μ a b) : Fresh σ' μ' := by
  have e1 : oD σ' = oD σ := by unfold oD; rw [h1]
  have e2 : oT σ' = oT σ := by unfold oT; rw [h1]
  have e3 : oH σ' = oH σ := by unfold oH; rw [e1, h2]
  obtain ⟨a1, a2, a3, a4, a5, a6, a7, a8, a9⟩ := h
  unfold Fresh
  rw [e1, e2, e3, h1]
  have hn : dn (oD σ) ≤ 8 := (parsed_wf' _).1
  refine ⟨by rw [k _ _ (by omega)]; exact a1, by rw [k _ _ (by omega)]; exact a2, by rw [k _ _ (by omega)]; exact a3, a4.kept (fun a b _ _ => k a b (by omega)), fun s hs => by rw [k _ _ (by omega)]; exact a5 s hs, fun s hs => by rw [k _ _ (by omega)]; exact a6 s hs, fun s hs => by rw [k _ _ (by omega)]; exact a7 s hs, a8.kept hn (fun a b _ _ => k a b (by omega)), a9.kept (fun a b _ _ => k a b (by omega))⟩
theorem f_freshen_0 {μ : am_M} (h : μ 0 16 = nI 0) : f_X10_freshen [vR 0] μ = some (none, μ) := by
  unfold f_X10_freshen g_X10_freshen
  generalize hc1 : (b_2 .lt (e_li 2) (e_i 20)) = c1; generalize hb1 : (s_sq (s_ia ShX (e_gf ShX 10 4 (e_lr 0)) (e_li 2) (e_c (b_2 .lt (e_li 2) (e_li 1)) (e_b o_isub (e_ald ShX (e_gf ShX 7 0 (e_gf ShX 10 1 (e_lr 0))) (e_li 2)) (e_i 48)) (e_i 5))) (s_inc 3 2 1)) = b1
  simp (disch := first | omega | assumption | exact Or.inl rfl | exact Or.inr rfl | exact bI_ok _) [am_fn, am_en, am_bd_s, am_bd_n, e_n, e_u, e_b, e_c, e_k, b_z, b_2, b_and, b_or, b_not, a_0, a_1, s_k, s_pop, s_as, s_inc, s_pf, s_po, s_ia, s_io, s_cy, s_0, s_sq, s_if, s_no, s_bk, s_rt_I, s_rt_L, s_rt_A, s_rv, s_sw, o_k, o_li, o_ll, o_lr, o_ii, o_iz, o_jj, o_jz, o_ji, o_jc, o_iu, o_i2l, o_si, o_sr, o_sl, o_inc, am_cl, am_cs, am_m1, am_m2, am_c1, am_c0, am_c2, am_se, am_nl, am_nr, am_wh, List.getElem?_cons_zero, List.getElem?_cons_succ, List.length_cons, List.length_nil, Option.map_some, Option.map_none, List.reverse_cons, List.set_cons_succ, List.set_cons_zero, List.take_succ_cons, List.take_zero, List.cons_append, List.nil_append, nI_lit, nN_lit, nI_eq, nI_ltI, nI_leI, nI_add, pk_mul, pk_sub, nI_eN, nN_eI, nN_ltI, nN_leI, nI_ltN, nI_leN, nN_nN, nN_leN, bI_e0, bI_e1, bt_shr, nI_sub_lt, ntT, ntF, nlT, nlF, neT, neF, gv_X_0_16, h]
theorem f_freshen_1 {σ : Sg} {μ : am_M} (hw : wfS σ) (hX : RX σ μ) (h : μ 0 16 = nI 1) : ∃ μ', f_X10_freshen [vR 0] μ = some (none, μ') ∧ RX σ μ' ∧ μ' 0 16 = nI 0 ∧ Fresh σ μ' ∧ μ' 81 3 = nI 1 := by
  have hD : wfD (oD σ) := parsed_wf' _
  have hn := hD.1
  obtain ⟨T0, T0b⟩ := hw.1 0 (by decide)
  obtain ⟨T1, T1b⟩ := hw.1 1 (by decide)
  obtain ⟨T2, T2b⟩ := hw.1 2 (by decide)
  have T0 : (sT σ 0).length ≤ 71 := T0
  have T1 : (sT σ 1).length ≤ 20 := T1
  have T2 : (sT σ 2).length ≤ 8 := T2
  have x0 := hX.1.xt (t := 0) (by decide)
  have x1 := hX.1.xt (t := 1) (by decide)
  have x2 := hX.1.xt (t := 2) (by decide)
  -- strands
  have u0 : ∀ a b, a ≠ 0 → am_up μ 0 16 (nI 0) a b = μ a b := fun a b hab => am_up_ne _ _ (by omega)
  obtain ⟨m1, p1, p2, p3⟩ := f_parse (T := sT σ 0) (μ := am_up μ 0 16 (nI 0)) T0 T0b ⟨by rw [u0 _ _ (by omega)]; exact x0.1, fun i hi => by rw [u0 _ _ (by omega)]; exact x0.2 i hi⟩
  have q1 : ∀ a b, a ≠ 0 → ¬ (7 ≤ a ∧ a < 12) → ¬ (a = 1 ∧ b = 3) → am_up m1 1 3 (oI (pfault (sT σ 0))) a b = μ a b := fun a b h1 h2 h3 => by rw [am_up_ne _ _ (by omega), p3 _ _ h2, u0 _ _ h1]
  obtain ⟨m2, l1, l2, l3, l4⟩ := f_linkAll (D := oD σ) (μ := am_up m1 1 3 (oI (pfault (sT σ 0)))) hD (p2.kept (fun a b _ _ => am_up_ne _ _ (by omega)))
  have q2 : ∀ a b, a ≠ 0 → ¬ (7 ≤ a ∧ a < 14) → ¬ (a = 1 ∧ b = 3) → m2 a b = μ a b := fun a b h1 h2 h3 => by rw [l4 _ _ (by omega), q1 a b h1 (by omega) h3]
  -- tides and route
  have g1 := f_firstBeyond (t := 1) (lo := 48) (up := 57) (T := sT σ 1) (μ := m2) (by decide) (by omega) T1b ⟨by rw [q2 _ _ (by omega) (by omega) (by omega)]; exact x1.1, fun i hi => by rw [q2 _ _ (by omega) (by omega) (by omega)]; exact x1.2 i hi⟩ (by decide) (by decide)
  generalize e3 : am_up m2 3 3 (oI (beyond (sT σ 1) 48 57)) = m3
  have q3 : ∀ a b, ¬ (a = 3 ∧ b = 3) → m3 a b = m2 a b := fun a b h1 => by rw [← e3, am_up_ne _ _ (by omega)]
  have q3' : m3 3 3 = oI (beyond (sT σ 1) 48 57) := by rw [← e3, am_up_eq]
  have g2 := f_firstBeyond (t := 2) (lo := 97) (up := 104) (T := sT σ 2) (μ := m3) (by decide) (by omega) T2b ⟨by rw [q3 _ _ (by omega), q2 _ _ (by omega) (by omega) (by omega)]; exact x2.1, fun i hi => by rw [q3 _ _ (by omega), q2 _ _ (by omega) (by omega) (by omega)]; exact x2.2 i hi⟩ (by decide) (by decide)
  generalize e4 : am_up m3 5 3 (oI (beyond (sT σ 2) 97 104)) = m4
  have q4 : ∀ a b, ¬ (a = 5 ∧ b = 3) → m4 a b = m3 a b := fun a b h1 => by rw [← e4, am_up_ne _ _ (by omega)]
  have q4' : m4 5 3 = oI (beyond (sT σ 2) 97 104) := by rw [← e4, am_up_eq]
  have g3 := f_sound (t := 1) (lo := 48) (hi := 57) (T := sT σ 1) (μ := m4) (by decide) (by omega) (by rw [q4 _ _ (by omega), q3 _ _ (by omega), q2 _ _ (by omega) (by omega) (by omega)]; exact x1.1) (by rw [q4 _ _ (by omega)]; exact q3')
  have q5 : ∀ a b, a ≠ 0 → ¬ (7 ≤ a ∧ a < 14) → ¬ (a = 1 ∧ b = 3) → ¬ (a = 3 ∧ b = 3) → ¬ (a = 5 ∧ b = 3) → m4 a b = μ a b := fun a b h1 h2 h3 h4 h5 => by rw [q4 a b h5, q3 a b h4, q2 a b h1 h2 h3]
  unfold f_X10_freshen g_X10_freshen
  generalize hc1 : (b_2 .lt (e_li 2) (e_i 20)) = c1; generalize hb1 : (s_sq (s_ia ShX (e_gf ShX 10 4 (e_lr 0)) (e_li 2) (e_c (b_2 .lt (e_li 2) (e_li 1)) (e_b o_isub (e_ald ShX (e_gf ShX 7 0 (e_gf ShX 10 1 (e_lr 0))) (e_li 2)) (e_i 48)) (e_i 5))) (s_inc 3 2 1)) = b1
  have key := lp_inv (c := c1) (b := b1) (fun i e μ' => e = [vR 0, vI (nI (snd' (sT σ 1) 48 57)), vI (nI i)] ∧ (∀ u, u < i → μ' 14 u = nI (oT σ u)) ∧ Fr (fun a => a = 14) m4 μ') 20 ?_ ?_ 20 0 _ m4 (by omega) ⟨rfl, fun u hu => by omega, Fr.rf⟩
  · obtain ⟨e', m5, k1, rfl, k2, k3⟩ := key
    have hx5 : xE 15 (sE σ) m5 := hX.2.1.kept (fun a b h1 h2 => by rw [k3 _ _ (by omega), q5 _ _ (by omega) (by omega) (by omega) (by omega) (by omega)])
    have hD5 : xD (oD σ) m5 := p2.kept (fun a b h1 h2 => by rw [k3 _ _ (by omega), q4 _ _ (by omega), q3 _ _ (by omega), l4 _ _ (by omega), am_up_ne _ _ (by omega)])
    obtain ⟨m6, a1, a2, a3⟩ := f_hangAll (sh := 25) (base := 27) (ev := 15) (t := oT σ) (Or.inl ⟨rfl, rfl⟩) (Or.inl rfl) hD hD5 hw.2.1 hx5 (td_lt _) k2
    have q6 : ∀ a b, ¬ (27 ≤ a ∧ a < 51) → m6 a b = m5 a b := fun a b h1 => a3 a b (by omega)
    have d6 : m6 7 0 = nI (dn (oD σ)) := by rw [q6 _ _ (by omega)]; exact hD5.1
    obtain ⟨m7, b1', b2, b3⟩ := f_go (wc := 77) (sh := 25) (base := 27) (D := oD σ) (t := oT σ) (H := oH σ) (T := sT σ 2) (μ := m6) (Or.inl rfl) (Or.inl ⟨rfl, rfl⟩) hD a2 (oH_lt hw) T2 T2b ⟨by rw [q6 _ _ (by omega), k3 _ _ (by omega), q5 _ _ (by omega) (by omega) (by omega) (by omega) (by omega)]; exact x2.1, fun i hi => by rw [q6 _ _ (by omega), k3 _ _ (by omega), q5 _ _ (by omega) (by omega) (by omega) (by omega) (by omega)]; exact x2.2 i hi⟩ (by rw [q6 _ _ (by omega), k3 _ _ (by omega)]; exact q4')
    have q7 : ∀ a b, ¬ (a = 77 ∨ a = 78) → am_up m7 81 3 (nI 1) a b = m6 a b ∨ (a = 81 ∧ b = 3) := fun a b h1 => by
      by_cases h9 : a = 81 ∧ b = 3
      · exact Or.inr h9
      · exact Or.inl (by rw [am_up_ne _ _ (by omega), b3 _ _ (by omega)])
    have q8 : ∀ a b, ¬ (a = 77 ∨ a = 78) → ¬ a = 81 → am_up m7 81 3 (nI 1) a b = m6 a b := fun a b h1 h2 => by rw [am_up_ne _ _ (by omega), b3 _ _ (by omega)]
    have q9 : ∀ a b, (1 ≤ a ∧ a < 7 ∧ b ≠ 3) ∨ (15 ≤ a ∧ a < 25) ∨ 85 ≤ a → am_up m7 81 3 (nI 1) a b = μ a b := fun a b h1 => by rw [q8 _ _ (by omega) (by omega), q6 _ _ (by omega), k3 _ _ (by omega), q5 _ _ (by omega) (by omega) (by omega) (by omega) (by omega)]
    have q10 : ∀ b, b ≠ 16 → am_up m7 81 3 (nI 1) 0 b = μ 0 b := fun b hb => by rw [q8 _ _ (by omega) (by omega), q6 _ _ (by omega), k3 _ _ (by omega), q4 _ _ (by omega), q3 _ _ (by omega), l4 _ _ (by omega), am_up_ne _ _ (by omega), p3 _ _ (by omega), am_up_ne _ _ (by omega)]
    refine ⟨am_up m7 81 3 (nI 1), ?_, ⟨?_, ?_, ?_, ?_, ?_⟩, ?_, ⟨?_, ?_, ?_, ?_, ?_, ?_, ?_, ?_, ?_⟩, am_up_eq _ _ _ _⟩
    · have b1'' : f_X9_go [vR 77, vR 25, vI (nI (dn (oD σ))), vR 5] m6 = some (none, m7) := b1'
      have g1' : f_X7_firstBeyond [vR 3, vI (nI 48), vI (nI 57)] m2 = _ := g1
      have g2' : f_X7_firstBeyond [vR 5, vI (nI 97), vI (nI 104)] m3 = _ := g2
      have g3' : f_X7_sound [vR 3] m4 = _ := g3
      simp (disch := first | omega | assumption | exact Or.inl rfl | exact Or.inr rfl | exact bI_ok _) [am_fn, am_en, am_bd_s, am_bd_n, e_n, e_u, e_b, e_c, e_k, b_z, b_2, b_and, b_or, b_not, a_0, a_1, s_k, s_pop, s_as, s_inc, s_pf, s_po, s_ia, s_io, s_cy, s_0, s_sq, s_if, s_no, s_bk, s_rt_I, s_rt_L, s_rt_A, s_rv, s_sw, o_k, o_li, o_ll, o_lr, o_ii, o_iz, o_jj, o_jz, o_ji, o_jc, o_iu, o_i2l, o_si, o_sr, o_sl, o_inc, am_cl, am_cs, am_m1, am_m2, am_c1, am_c0, am_c2, am_se, am_nl, am_nr, am_wh, List.getElem?_cons_zero, List.getElem?_cons_succ, List.length_cons, List.length_nil, Option.map_some, Option.map_none, List.reverse_cons, List.set_cons_succ, List.set_cons_zero, List.take_succ_cons, List.take_zero, List.cons_append, List.nil_append, nI_lit, nN_lit, nI_eq, nI_ltI, nI_leI, nI_add, pk_mul, pk_sub, nI_eN, nN_eI, nN_ltI, nN_leI, nI_ltN, nI_leN, nN_nN, nN_leN, bI_e0, bI_e1, bt_shr, nI_sub_lt, ntT, ntF, nlT, nlF, neT, neF, gv_X_0_16, h, pv_X_0_16, gv_X_0_0, gv_X_0_1, gv_X_0_2, gv_X_0_3, gv_X_0_4, gv_X_0_5, gv_X_0_7, gv_X_0_9, gv_X_0_11, ck_X_7, p1, pv_T_3 (show 0 < 3 by decide), l1, ck_T (show 1 < 3 by decide), g1', pv_T_3 (show 1 < 3 by decide), e3, ck_T (show 2 < 3 by decide), g2', pv_T_3 (show 2 < 3 by decide), e4, g3', k1, ck_X_25, a1, ck_X_77, gv_X_7_0, d6, b1'', pv_X_81_3]
    · intro t ht
      obtain ⟨y1, y2, y3⟩ := hX.1 t ht
      exact ⟨by rw [q9 _ _ (by omega)]; exact y1, by rw [q9 _ _ (by omega)]; exact y2, fun i b hb => by rw [q8 _ _ (by omega) (by omega), q6 _ _ (by omega), k3 _ _ (by omega), q5 _ _ (by omega) (by omega) (by omega) (by omega) (by omega)]; exact y3 i b hb⟩
    · exact hX.2.1.kept (fun a b h1 h2 => q9 a b (by omega))
    · exact hX.2.2.1.kept (fun a b h1 h2 => q9 a b (by omega))
    · exact hX.2.2.2.1.kept (fun a b h1 h2 => q9 a b (by omega))
    · rw [q10 _ (by omega)]; exact hX.2.2.2.2
    · rw [q8 _ _ (by omega) (by omega), q6 _ _ (by omega), k3 _ _ (by omega), q4 _ _ (by omega), q3 _ _ (by omega), l4 _ _ (by omega), am_up_ne _ _ (by omega), p3 _ _ (by omega), am_up_eq]
    · rw [q8 _ _ (by omega) (by omega), q6 _ _ (by omega), k3 _ _ (by omega), q4 _ _ (by omega), q3 _ _ (by omega), l4 _ _ (by omega), am_up_eq]
    · rw [q8 _ _ (by omega) (by omega), q6 _ _ (by omega), k3 _ _ (by omega), q4 _ _ (by omega), q3']
    · rw [q8 _ _ (by omega) (by omega), q6 _ _ (by omega), k3 _ _ (by omega), q4']
    · exact hD5.kept (fun a b h1 h2 => by rw [q8 _ _ (by omega) (by omega), q6 _ _ (by omega)])
    · intro s hs
      rw [q8 _ _ (by omega) (by omega), q6 _ _ (by omega), k3 _ _ (by omega), q4 _ _ (by omega), q3 _ _ (by omega)]; exact l2 s hs
    · intro s hs
      rw [q8 _ _ (by omega) (by omega), q6 _ _ (by omega), k3 _ _ (by omega), q4 _ _ (by omega), q3 _ _ (by omega)]; exact l3 s hs
    · intro u hu
      rw [q8 _ _ (by omega) (by omega), q6 _ _ (by omega)]; exact k2 u hu
    · exact a2.kept hn (fun a b h1 h2 => q8 a b (by omega) (by omega))
    · exact b2.kept (fun a b h1 h2 => am_up_ne _ _ (by omega))
  · rintro i e μ' hi ⟨rfl, i2, i3⟩
    subst hc1 hb1
    refine ⟨by simp (disch := first | omega | assumption | exact Or.inl rfl | exact Or.inr rfl | exact bI_ok _) [am_fn, am_en, am_bd_s, am_bd_n, e_n, e_u, e_b, e_c, e_k, b_z, b_2, b_and, b_or, b_not, a_0, a_1, s_k, s_pop, s_as, s_inc, s_pf, s_po, s_ia, s_io, s_cy, s_0, s_sq, s_if, s_no, s_bk, s_rt_I, s_rt_L, s_rt_A, s_rv, s_sw, o_k, o_li, o_ll, o_lr, o_ii, o_iz, o_jj, o_jz, o_ji, o_jc, o_iu, o_i2l, o_si, o_sr, o_sl, o_inc, am_cl, am_cs, am_m1, am_m2, am_c1, am_c0, am_c2, am_se, am_nl, am_nr, am_wh, List.getElem?_cons_zero, List.getElem?_cons_succ, List.length_cons, List.length_nil, Option.map_some, Option.map_none, List.reverse_cons, List.set_cons_succ, List.set_cons_zero, List.take_succ_cons, List.take_zero, List.cons_append, List.nil_append, nI_lit, nN_lit, nI_eq, nI_ltI, nI_leI, nI_add, pk_mul, pk_sub, nI_eN, nN_eI, nN_ltI, nN_leI, nI_ltN, nI_leN, nN_nN, nN_leN, bI_e0, bI_e1, bt_shr, nI_sub_lt, ntT, ntF, nlT, nlF, neT, neF, ], _, am_up μ' 14 i (nI (oT σ i)), ?_, rfl, fun u hu => ?_, i3.up rfl⟩
    · unfold oT td
      by_cases d1 : i < snd' (sT σ 1) 48 57
      · obtain ⟨s1, s2, s3, s4⟩ := snd_in d1
        have y1 : μ' 4 i = nI (tb (sT σ 1) i) := by rw [i3 _ _ (by omega), q5 _ _ (by omega) (by omega) (by omega) (by omega) (by omega)]; exact x1.2 i s1
        simp (disch := first | omega | assumption | exact Or.inl rfl | exact Or.inr rfl | exact bI_ok _) [am_fn, am_en, am_bd_s, am_bd_n, e_n, e_u, e_b, e_c, e_k, b_z, b_2, b_and, b_or, b_not, a_0, a_1, s_k, s_pop, s_as, s_inc, s_pf, s_po, s_ia, s_io, s_cy, s_0, s_sq, s_if, s_no, s_bk, s_rt_I, s_rt_L, s_rt_A, s_rv, s_sw, o_k, o_li, o_ll, o_lr, o_ii, o_iz, o_jj, o_jz, o_ji, o_jc, o_iu, o_i2l, o_si, o_sr, o_sl, o_inc, am_cl, am_cs, am_m1, am_m2, am_c1, am_c0, am_c2, am_se, am_nl, am_nr, am_wh, List.getElem?_cons_zero, List.getElem?_cons_succ, List.length_cons, List.length_nil, Option.map_some, Option.map_none, List.reverse_cons, List.set_cons_succ, List.set_cons_zero, List.take_succ_cons, List.take_zero, List.cons_append, List.nil_append, nI_lit, nN_lit, nI_eq, nI_ltI, nI_leI, nI_add, pk_mul, pk_sub, nI_eN, nN_eI, nN_ltI, nN_leI, nI_ltN, nI_leN, nN_nN, nN_leN, bI_e0, bI_e1, bt_shr, nI_sub_lt, ntT, ntF, nlT, nlF, neT, neF, d1, gv_X_0_4, gv_X_0_1, gv_T_0 (show 1 < 3 by decide), lv_T_0 (show 1 < 3 by decide), y1, wv_X_14]
      · have lS := snd_le (sT σ 1) 48 57
        simp (disch := first | omega | assumption | exact Or.inl rfl | exact Or.inr rfl | exact bI_ok _) [am_fn, am_en, am_bd_s, am_bd_n, e_n, e_u, e_b, e_c, e_k, b_z, b_2, b_and, b_or, b_not, a_0, a_1, s_k, s_pop, s_as, s_inc, s_pf, s_po, s_ia, s_io, s_cy, s_0, s_sq, s_if, s_no, s_bk, s_rt_I, s_rt_L, s_rt_A, s_rv, s_sw, o_k, o_li, o_ll, o_lr, o_ii, o_iz, o_jj, o_jz, o_ji, o_jc, o_iu, o_i2l, o_si, o_sr, o_sl, o_inc, am_cl, am_cs, am_m1, am_m2, am_c1, am_c0, am_c2, am_se, am_nl, am_nr, am_wh, List.getElem?_cons_zero, List.getElem?_cons_succ, List.length_cons, List.length_nil, Option.map_some, Option.map_none, List.reverse_cons, List.set_cons_succ, List.set_cons_zero, List.take_succ_cons, List.take_zero, List.cons_append, List.nil_append, nI_lit, nN_lit, nI_eq, nI_ltI, nI_leI, nI_add, pk_mul, pk_sub, nI_eN, nN_eI, nN_ltI, nN_leI, nI_ltN, nI_leN, nN_nN, nN_leN, bI_e0, bI_e1, bt_shr, nI_sub_lt, ntT, ntF, nlT, nlF, neT, neF, d1, gv_X_0_4, wv_X_14]
    · by_cases e : u = i
      · rw [e, am_up_eq]
      · rw [am_up_ne _ _ (by omega)]; exact i2 u (by omega)
  · rintro e μ' ⟨rfl, i2, i3⟩
    subst hc1
    simp (disch := first | omega | assumption | exact Or.inl rfl | exact Or.inr rfl | exact bI_ok _) [am_fn, am_en, am_bd_s, am_bd_n, e_n, e_u, e_b, e_c, e_k, b_z, b_2, b_and, b_or, b_not, a_0, a_1, s_k, s_pop, s_as, s_inc, s_pf, s_po, s_ia, s_io, s_cy, s_0, s_sq, s_if, s_no, s_bk, s_rt_I, s_rt_L, s_rt_A, s_rv, s_sw, o_k, o_li, o_ll, o_lr, o_ii, o_iz, o_jj, o_jz, o_ji, o_jc, o_iu, o_i2l, o_si, o_sr, o_sl, o_inc, am_cl, am_cs, am_m1, am_m2, am_c1, am_c0, am_c2, am_se, am_nl, am_nr, am_wh, List.getElem?_cons_zero, List.getElem?_cons_succ, List.length_cons, List.length_nil, Option.map_some, Option.map_none, List.reverse_cons, List.set_cons_succ, List.set_cons_zero, List.take_succ_cons, List.take_zero, List.cons_append, List.nil_append, nI_lit, nN_lit, nI_eq, nI_ltI, nI_leI, nI_add, pk_mul, pk_sub, nI_eN, nN_eI, nN_ltI, nN_leI, nI_ltN, nI_leN, nN_nN, nN_leN, bI_e0, bI_e1, bt_shr, nI_sub_lt, ntT, ntF, nlT, nlF, neT, neF, ]
