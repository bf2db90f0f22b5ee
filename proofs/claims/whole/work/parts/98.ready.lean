/-! the reference behind find; the class behind freshen; queries of both -/
/-- what the state rests on, of the reference's cells -/
def cM (a b : Nat) : Prop := (1 ≤ a ∧ a < 4) ∨ a = 5 ∨ a = 6 ∨ a = 13 ∨ a = 25 ∨ (a = 0 ∧ (b = 4 ∨ b = 15 ∨ b = 22 ∨ b = 31))
theorem RM.kept {σ : Sg} {μ μ' : am_M} (h : RM σ μ) (k : ∀ a b, cM a b → μ' a b = μ a b) : RM σ μ' := by
  obtain ⟨h1, h2, h3, h4, h5, h6⟩ := h
  refine ⟨h1.kept (fun a b hab => k a b (by unfold cM; omega)), h2.kept (k _ _ (by unfold cM; omega)) (fun b => k _ _ (by unfold cM; omega)), h3.kept (k _ _ (by unfold cM; omega)) (fun b => k _ _ (by unfold cM; omega)), h4.kept (fun a b h7 h8 => k a b (by unfold cM; omega)), ?_, ?_⟩
  · rw [k _ _ (by unfold cM; omega)]; exact h5
  · rw [k _ _ (by unfold cM; omega)]; exact h6
/-- strands, tides, route are read -/
def Fnd (σ : Sg) (μ : am_M) : Prop := RM σ μ ∧ mD (oD σ) μ ∧ (∀ h, h < 20 → μ 11 h = nI (oT σ h)) ∧ mR (sT σ 2) μ
/-- and all lived as told -/
def Lv (σ : Sg) (μ : am_M) : Prop := mL (oD σ) (sE σ) noE 20 μ
theorem mL.kept {D : Dd} {E : List Ev} {g : Nat → Bool} {n : Nat} {μ μ' : am_M} (h : mL D E g n μ) (k : ∀ a b, 14 ≤ a → a < 17 → μ' a b = μ a b) : mL D E g n μ' := fun u hu s hs => by
  obtain ⟨h1, h2, h3⟩ := h u hu s hs
  exact ⟨by rw [k _ _ (by omega) (by omega)]; exact h1, by rw [k _ _ (by omega) (by omega)]; exact h2, by rw [k _ _ (by omega) (by omega)]; exact h3⟩
/-- the cells of Fnd -/
def cF (a b : Nat) : Prop := (1 ≤ a ∧ a < 4) ∨ (5 ≤ a ∧ a < 14) ∨ a = 25 ∨ (a = 0 ∧ (b = 4 ∨ b = 7 ∨ b = 13 ∨ b = 15 ∨ b = 22 ∨ b = 31))
theorem Fnd.kept {σ : Sg} {μ μ' : am_M} (h : Fnd σ μ) (k : ∀ a b, cF a b → μ' a b = μ a b) : Fnd σ μ' := by
  obtain ⟨h1, h2, h3, h4⟩ := h
  refine ⟨h1.kept (fun a b hab => k a b (by unfold cM at hab; unfold cF; omega)), h2.kept (k _ _ (by unfold cF; omega)) (fun a b _ _ => k _ _ (by unfold cF; omega)), fun u hu => ?_, ?_, fun i hi => ?_⟩
  · rw [k _ _ (by unfold cF; omega)]; exact h3 u hu
  · rw [k _ _ (by unfold cF; omega)]; exact h4.1
  · rw [k _ _ (by unfold cF; omega)]; exact h4.2 i hi
theorem oD_wf (σ : Sg) : wfD (oD σ) := parsed_wf' _
theorem Fnd.lives {σ : Sg} {μ : am_M} (hw : wfS σ) (h : Fnd σ μ) : ∃ μ', f_X11_lives [vR 0] μ = some (none, μ') ∧ Fnd σ μ' ∧ Lv σ μ' := by
  obtain ⟨μ', h1, h2, h3⟩ := f_lives (g := noE) (oD_wf σ) hw.2.1 h.2.1 h.1.2.1 (fun i hi => by rw [h.1.2.2.2.2.2]; exact bt_0 i)
  exact ⟨μ', h1, h.kept (fun a b hab => h3 a b (by unfold cF at hab; omega)), h2⟩
theorem f_find {σ : Sg} {μ : am_M} (hw : wfS σ) (h : RM σ μ) : ∃ μ', f_X11_find [vR 0] μ = some (none, μ') ∧ Fnd σ μ' ∧ Lv σ μ' := by
  obtain ⟨T0, T0b⟩ := hw.1 0 (by decide)
  obtain ⟨T1, T1b⟩ := hw.1 1 (by decide)
  obtain ⟨T2, T2b⟩ := hw.1 2 (by decide)
  obtain ⟨m1, a1, a2, a3⟩ := f_readsStrands T0 T0b (h.1.mt (t := 0) (by decide))
  have h1 : RM σ m1 := h.kept (fun a b hab => a3 a b (by unfold cM at hab; unfold cS; omega))
  obtain ⟨m2, b1, b2, b3⟩ := f_readsTides T1 T1b (h1.1.mt (t := 1) (by decide))
  have h2 : RM σ m2 := h1.kept (fun a b hab => b3 a b (by unfold cM at hab; omega))
  obtain ⟨m3, c1, c2, c3⟩ := f_readsRoute T2 T2b (h2.1.mt (t := 2) (by decide))
  have h3 : RM σ m3 := h2.kept (fun a b hab => c3 a b (by unfold cM at hab; unfold cR; omega))
  have hF : Fnd σ m3 := ⟨h3, a2.kept (by rw [c3 _ _ (by unfold cR; omega), b3 _ _ (by omega)]) (fun a b _ _ => by rw [c3 _ _ (by unfold cR; omega), b3 _ _ (by omega)]), fun u hu => by rw [c3 _ _ (by unfold cR; omega)]; exact b2 u hu, c2⟩
  obtain ⟨m4, d1, d2, d3⟩ := hF.lives hw
  refine ⟨m4, ?_, d2, d3⟩
  unfold f_X11_find g_X11_find
  simp (disch := first | omega | assumption | exact Or.inl rfl | exact Or.inr rfl | exact bI_ok _) [v_bd, mp_s, v_en, v_k, v_li, li_s, v_ll, ll_s, v_lr, lr_s, v_eu, v_ku, v_eb, v_kb1, v_kb2, v_ec, kc_t, kc_f, v_bz, kz_I, v_b2, v_k21, k22_I, v_and, kan_t, kan_f, v_or, kor_t, kor_f, v_not, v_knt, v_a0, v_a1, v_ka1, v_ka2, v_ek, v_kk, kkr_s, v_sk, v_ks, ksr_s, v_pop, kpop_I, kase_s, v_as, v_kas, v_inc, kme_s, v_pf, v_kpf1, v_kpf2, v_po, v_kpo1, v_kpo2, v_kpo3, v_kpo4, v_ia, v_kia1, v_kia2, v_kia3, v_io, v_kio1, v_kio2, v_kio3, v_kio4, v_kio5, v_s0, v_sq, sqk_l, sqk_r, v_if, kif_t, kif_f, v_no, nok_r, v_bk, bkk_l, bkk_r, v_rtI, krI_s, v_rtL, krL_s, v_rv, v_sw, ksw_I, ksw2_s, v_fn, fnl_t, fnk_r, fnr_t, nr_I, nr_L, nr_n, nr_b, nr_0, nr_1, nr_R, v_cl, v_cs, clk_t, m2_I, m1_I, v_si, v_sr, sik_t, v_sl, slk_t, v_oinc, inck_s, se_0, se_n, se_s, v_nl, v_nl0, nlo_I, nlo_R, nlo_U, nlo_n, v_ii, v_jj, v_ji, v_jc, v_iz, v_iu, v_i2l, c0_eq, c0_ne, c0_lt, c0_ge, c0_gt, c0_le, c2_eq, c2_ne, c2_lt, c2_ge, c2_gt, c2_le, en_n, en_I, en_R, en_L, List.getElem?_cons_zero, List.getElem?_cons_succ, List.getElem?_nil, List.length_cons, List.length_nil, List.take_succ_cons, List.take_zero, List.cons_append, List.nil_append, nI_lit, nN_lit, nI_eq, nI_ltI, nI_leI, nI_add, pk_mul, pk_sub, nI_eN, nN_eI, nN_ltI, nN_leI, nI_ltN, nI_leN, nN_nN, nN_leN, bI_e0, bI_e1, bt_shr, nI_sub_lt, ntT, ntF, nlT, nlF, neT, neF, ck_M_0, a1, b1, c1, d1]
theorem f_isStrandM {n : Nat} {μ : am_M} (h : μ 0 7 = nI n) (hn : n < 2 ^ 30) (x : Int32) : f_X11_isStrand [vR 0, vI x] μ = some (some (vI (bI (rg x n))), μ) := by
  unfold f_X11_isStrand g_X11_isStrand
  have h1 : (nI n - nI 1).toInt64 = lN n - 1 := by
    apply Int64.toInt_inj.mp
    rw [Int32.toInt_toInt64, pk_sub_toInt (by omega) (by omega), Int64.toInt_sub, pk_lT (by omega)]
    show _ = (((n : Int) - 1).bmod (2 ^ 64))
    rw [Int.bmod_eq_of_le (by omega) (by omega)]
    rfl
  have h2 : (decide ((0 : Int64) ≤ x.toInt64) && decide (x.toInt64 ≤ lN n - 1)) = rg x n := by
    unfold rg
    have h1 : ((0 : Int64) ≤ x.toInt64) ↔ (0 : Int32) ≤ x := by
      rw [Int64.le_iff_toInt_le, Int32.le_iff_toInt_le, Int32.toInt_toInt64]
      rfl
    have h2 : (x.toInt64 ≤ lN n - 1) ↔ x < nI n := by
      rw [Int64.le_iff_toInt_le, Int32.lt_iff_toInt_lt, Int32.toInt_toInt64, nI_toInt (by omega), Int64.toInt_sub, pk_lT (by omega)]
      show _ ≤ (((n : Int) - 1).bmod (2 ^ 64)) ↔ _
      rw [Int.bmod_eq_of_le (by omega) (by omega)]
      omega
    rw [decide_eq_decide.mpr h1, decide_eq_decide.mpr h2]
  have h3 := f_in x.toInt64 0 (lN n - 1) μ
  rw [h2] at h3
  rw [← h1] at h3
  cases hb : rg x n
  · rw [hb] at h3
    simp (disch := first | omega | assumption | exact Or.inl rfl | exact Or.inr rfl | exact bI_ok _) [v_bd, mp_s, v_en, v_k, v_li, li_s, v_ll, ll_s, v_lr, lr_s, v_eu, v_ku, v_eb, v_kb1, v_kb2, v_ec, kc_t, kc_f, v_bz, kz_I, v_b2, v_k21, k22_I, v_and, kan_t, kan_f, v_or, kor_t, kor_f, v_not, v_knt, v_a0, v_a1, v_ka1, v_ka2, v_ek, v_kk, kkr_s, v_sk, v_ks, ksr_s, v_pop, kpop_I, kase_s, v_as, v_kas, v_inc, kme_s, v_pf, v_kpf1, v_kpf2, v_po, v_kpo1, v_kpo2, v_kpo3, v_kpo4, v_ia, v_kia1, v_kia2, v_kia3, v_io, v_kio1, v_kio2, v_kio3, v_kio4, v_kio5, v_s0, v_sq, sqk_l, sqk_r, v_if, kif_t, kif_f, v_no, nok_r, v_bk, bkk_l, bkk_r, v_rtI, krI_s, v_rtL, krL_s, v_rv, v_sw, ksw_I, ksw2_s, v_fn, fnl_t, fnk_r, fnr_t, nr_I, nr_L, nr_n, nr_b, nr_0, nr_1, nr_R, v_cl, v_cs, clk_t, m2_I, m1_I, v_si, v_sr, sik_t, v_sl, slk_t, v_oinc, inck_s, se_0, se_n, se_s, v_nl, v_nl0, nlo_I, nlo_R, nlo_U, nlo_n, v_ii, v_jj, v_ji, v_jc, v_iz, v_iu, v_i2l, c0_eq, c0_ne, c0_lt, c0_ge, c0_gt, c0_le, c2_eq, c2_ne, c2_lt, c2_ge, c2_gt, c2_le, en_n, en_I, en_R, en_L, List.getElem?_cons_zero, List.getElem?_cons_succ, List.getElem?_nil, List.length_cons, List.length_nil, List.take_succ_cons, List.take_zero, List.cons_append, List.nil_append, nI_lit, nN_lit, nI_eq, nI_ltI, nI_leI, nI_add, pk_mul, pk_sub, nI_eN, nN_eI, nN_ltI, nN_leI, nI_ltN, nI_leN, nN_nN, nN_leN, bI_e0, bI_e1, bt_shr, nI_sub_lt, ntT, ntF, nlT, nlF, neT, neF, gv_M_0_7, h, h3]
  · rw [hb] at h3
    simp (disch := first | omega | assumption | exact Or.inl rfl | exact Or.inr rfl | exact bI_ok _) [v_bd, mp_s, v_en, v_k, v_li, li_s, v_ll, ll_s, v_lr, lr_s, v_eu, v_ku, v_eb, v_kb1, v_kb2, v_ec, kc_t, kc_f, v_bz, kz_I, v_b2, v_k21, k22_I, v_and, kan_t, kan_f, v_or, kor_t, kor_f, v_not, v_knt, v_a0, v_a1, v_ka1, v_ka2, v_ek, v_kk, kkr_s, v_sk, v_ks, ksr_s, v_pop, kpop_I, kase_s, v_as, v_kas, v_inc, kme_s, v_pf, v_kpf1, v_kpf2, v_po, v_kpo1, v_kpo2, v_kpo3, v_kpo4, v_ia, v_kia1, v_kia2, v_kia3, v_io, v_kio1, v_kio2, v_kio3, v_kio4, v_kio5, v_s0, v_sq, sqk_l, sqk_r, v_if, kif_t, kif_f, v_no, nok_r, v_bk, bkk_l, bkk_r, v_rtI, krI_s, v_rtL, krL_s, v_rv, v_sw, ksw_I, ksw2_s, v_fn, fnl_t, fnk_r, fnr_t, nr_I, nr_L, nr_n, nr_b, nr_0, nr_1, nr_R, v_cl, v_cs, clk_t, m2_I, m1_I, v_si, v_sr, sik_t, v_sl, slk_t, v_oinc, inck_s, se_0, se_n, se_s, v_nl, v_nl0, nlo_I, nlo_R, nlo_U, nlo_n, v_ii, v_jj, v_ji, v_jc, v_iz, v_iu, v_i2l, c0_eq, c0_ne, c0_lt, c0_ge, c0_gt, c0_le, c2_eq, c2_ne, c2_lt, c2_ge, c2_gt, c2_le, en_n, en_I, en_R, en_L, List.getElem?_cons_zero, List.getElem?_cons_succ, List.getElem?_nil, List.length_cons, List.length_nil, List.take_succ_cons, List.take_zero, List.cons_append, List.nil_append, nI_lit, nN_lit, nI_eq, nI_ltI, nI_leI, nI_add, pk_mul, pk_sub, nI_eN, nN_eI, nN_ltI, nN_leI, nI_ltN, nI_leN, nN_nN, nN_leN, bI_e0, bI_e1, bt_shr, nI_sub_lt, ntT, ntF, nlT, nlF, neT, neF, gv_M_0_7, h, h3]
/-! the class -/
/-- the best row so far, from its end: strands and hours -/
abbrev Row : Type := List (Nat × Nat)
def nxH (D : Dd) (t : Nat → Nat) (H : Nat → Nat → Nat × Bool) (r : Row) (s : Nat) : Option Nat := match r with
  | [] => rdH D t H s 0 (H s 0).1
  | q :: _ => rdH D t H s (q.2 + 1) (H q.1 q.2).1
def lastH (r : Row) : Option Nat := r.head?.map (fun q => q.2)
def better (r b : Row) : Bool := decide (b.length < r.length) || (decide (r.length = b.length) && decide ((lastH r).getD 0 < (lastH b).getD 0))
def keepR (r b : Row) : Row := if better r b then r else b
def usedR (r : Row) (s : Nat) : Bool := r.any (fun q => decide (q.1 = s))
/-- all rows that begin with r, the best of them and of b -/
def dfsR (D : Dd) (t : Nat → Nat) (H : Nat → Nat → Nat × Bool) : Nat → Row → Row → Row
  | 0, _, b => b
  | f + 1, r, b => fd (fun s b => if usedR r s then b else match nxH D t H r s with
      | none => b
      | some h => dfsR D t H f ((s, h) :: r) (keepR ((s, h) :: r) b)) (dn D) b
def trS (σ : Sg) : Row := dfsR (oD σ) (oT σ) (oH σ) 9 [] []
def rowAt (r : Row) (i : Nat) : Nat := (r.reverse[i]?.getD (0, 0)).1
def TourOK (σ : Sg) (μ : am_M) : Prop := μ 81 3 = nI 1 ∨ (μ 81 3 = nI 0 ∧ μ 81 0 = nI (trS σ).length ∧ μ 81 1 = oI (lastH (trS σ)) ∧ ∀ i, i < (trS σ).length → μ 82 i = nI (rowAt (trS σ) i))
def Rd (σ : Sg) (μ : am_M) : Prop := RX σ μ ∧ μ 0 16 = nI 0 ∧ Fresh σ μ ∧ TourOK σ μ
def XC (σ : Sg) (μ : am_M) : Prop := RX σ μ ∧ (μ 0 16 = nI 1 ∨ (μ 0 16 = nI 0 ∧ Fresh σ μ ∧ TourOK σ μ))
theorem Rd.xc {σ : Sg} {μ : am_M} (h : Rd σ μ) : XC σ μ := ⟨h.1, Or.inr h.2⟩
/-- cells of no lasting weight -/
def Scr (a : Nat) : Prop := (20 ≤ a ∧ a < 25) ∨ (51 ≤ a ∧ a < 77) ∨ a = 79 ∨ a = 80 ∨ (89 ≤ a ∧ a < 93)
theorem RX.kept {σ : Sg} {μ μ' : am_M} (h : RX σ μ) (k : ∀ a b, (1 ≤ a ∧ a < 7) ∨ (15 ≤ a ∧ a < 20) ∨ (85 ≤ a ∧ a < 89) ∨ (94 ≤ a ∧ a < 102) ∨ (a = 0 ∧ b = 15) → μ' a b = μ a b) : RX σ μ' := by
  obtain ⟨h1, h2, h3, h4, h5⟩ := h
  refine ⟨h1.kept (fun a b _ _ => k a b (by omega)), h2.kept (fun a b _ _ => k a b (by omega)), h3.kept (fun a b _ _ => k a b (by omega)), h4.kept (fun a b _ _ => k a b (by omega)), ?_⟩
  rw [k _ _ (by omega)]; exact h5
theorem TourOK.kept {σ : Sg} {μ μ' : am_M} (h : TourOK σ μ) (k : ∀ a b, a = 81 ∨ a = 82 → μ' a b = μ a b) : TourOK σ μ' := by
  unfold TourOK
  rw [k 81 3 (by omega), k 81 0 (by omega), k 81 1 (by omega)]
  rcases h with h | ⟨h1, h2, h3, h4⟩
  · exact Or.inl h
  · exact Or.inr ⟨h1, h2, h3, fun i hi => by rw [k _ _ (by omega)]; exact h4 i hi⟩
theorem Rd.kept {σ : Sg} {μ μ' : am_M} (h : Rd σ μ) (k : Fr Scr μ μ') : Rd σ μ' := by
  obtain ⟨h1, h2, h3, h4⟩ := h
  refine ⟨h1.kept (fun a b hab => k a b (by unfold Scr; omega)), by rw [k _ _ (by unfold Scr; omega)]; exact h2, h3.kept rfl rfl (fun a b hab => k a b (by unfold Scr; omega)), h4.kept (fun a b hab => k a b (by unfold Scr; omega))⟩
theorem f_freshen {σ : Sg} {μ : am_M} (hw : wfS σ) (h : XC σ μ) : ∃ μ', f_X10_freshen [vR 0] μ = some (none, μ') ∧ Rd σ μ' := by
  rcases h with ⟨hX, h | ⟨h1, h2, h3⟩⟩
  · obtain ⟨μ', a1, a2, a3, a4, a5⟩ := f_freshen_1 hw hX h
    exact ⟨μ', a1, a2, a3, a4, Or.inl a5⟩
  · exact ⟨μ, f_freshen_0 h1, hX, h1, h2, h3⟩
theorem f_isStrandX {σ : Sg} {μ : am_M} (hw : wfS σ) (h : XC σ μ) (x : Int32) : ∃ μ', f_X10_isStrand [vR 0, vI x] μ = some (some (vI (bI (rg x (dn (oD σ))))), μ') ∧ Rd σ μ' := by
  obtain ⟨μ', a1, a2⟩ := f_freshen hw h
  refine ⟨μ', ?_, a2⟩
  unfold f_X10_isStrand g_X10_isStrand
  have y0 : μ' 7 0 = nI (dn (oD σ)) := a2.2.2.1.2.2.2.1.1
  cases hb : rg x (dn (oD σ)) <;> simp (disch := first | omega | assumption | exact Or.inl rfl | exact Or.inr rfl | exact bI_ok _) [v_bd, mp_s, v_en, v_k, v_li, li_s, v_ll, ll_s, v_lr, lr_s, v_eu, v_ku, v_eb, v_kb1, v_kb2, v_ec, kc_t, kc_f, v_bz, kz_I, v_b2, v_k21, k22_I, v_and, kan_t, kan_f, v_or, kor_t, kor_f, v_not, v_knt, v_a0, v_a1, v_ka1, v_ka2, v_ek, v_kk, kkr_s, v_sk, v_ks, ksr_s, v_pop, kpop_I, kase_s, v_as, v_kas, v_inc, kme_s, v_pf, v_kpf1, v_kpf2, v_po, v_kpo1, v_kpo2, v_kpo3, v_kpo4, v_ia, v_kia1, v_kia2, v_kia3, v_io, v_kio1, v_kio2, v_kio3, v_kio4, v_kio5, v_s0, v_sq, sqk_l, sqk_r, v_if, kif_t, kif_f, v_no, nok_r, v_bk, bkk_l, bkk_r, v_rtI, krI_s, v_rtL, krL_s, v_rv, v_sw, ksw_I, ksw2_s, v_fn, fnl_t, fnk_r, fnr_t, nr_I, nr_L, nr_n, nr_b, nr_0, nr_1, nr_R, v_cl, v_cs, clk_t, m2_I, m1_I, v_si, v_sr, sik_t, v_sl, slk_t, v_oinc, inck_s, se_0, se_n, se_s, v_nl, v_nl0, nlo_I, nlo_R, nlo_U, nlo_n, v_ii, v_jj, v_ji, v_jc, v_iz, v_iu, v_i2l, c0_eq, c0_ne, c0_lt, c0_ge, c0_gt, c0_le, c2_eq, c2_ne, c2_lt, c2_ge, c2_gt, c2_le, en_n, en_I, en_R, en_L, List.getElem?_cons_zero, List.getElem?_cons_succ, List.getElem?_nil, List.length_cons, List.length_nil, List.take_succ_cons, List.take_zero, List.cons_append, List.nil_append, nI_lit, nN_lit, nI_eq, nI_ltI, nI_leI, nI_add, pk_mul, pk_sub, nI_eN, nN_eI, nN_ltI, nN_leI, nI_ltN, nI_leN, nN_nN, nN_leN, bI_e0, bI_e1, bt_shr, nI_sub_lt, ntT, ntF, nlT, nlF, neT, neF, ck_X_0, a1, gv_X_0_3, gv_X_7_0, y0, f_within_n, hb, bI]
/-- a query: the state stays -/
def QX (f : am_F) (as : List AV) (σ : Sg) (v : AV) : Prop := ∀ μ, XC σ μ → ∃ μ', f (vR 0 :: as) μ = some (some v, μ') ∧ XC σ μ'
def QM (f : am_F) (as : List AV) (σ : Sg) (v : AV) : Prop := ∀ μ, RM σ μ → ∃ μ', f (vR 0 :: as) μ = some (some v, μ') ∧ RM σ μ'
/-- both memories hold one state -/
def Rel (μX μM : am_M) : Prop := ∃ σ, wfS σ ∧ XC σ μX ∧ RM σ μM
theorem Rel.op {fX fM : am_F} {as : List AV} {σ : Sg} {μX μM : am_M} (hc : XC σ μX) (h : Op fX fM as σ μX μM) : ∃ (v : AV) (μX' μM' : am_M), fX (vR 0 :: as) μX = some (some v, μX') ∧ fM (vR 0 :: as) μM = some (some v, μM') ∧ Rel μX' μM' := by
  obtain ⟨v, μX', μM', σ', h1, h2, h3, h4, h5, h6⟩ := h
  refine ⟨v, μX', μM', h1, h2, σ', h3, ⟨h4, ?_⟩, h5⟩
  rcases h6 with ⟨g1, g2, g3, g4⟩ | g
  · rcases hc.2 with h | ⟨h7, h8, h9⟩
    · exact Or.inl (by rw [g4]; exact h)
    · refine Or.inr ⟨by rw [g4]; exact h7, h8.kept g1 g2 (fun a b hab => g3 a b (by omega) (by omega)), ?_⟩
      have e1 : trS σ' = trS σ := by
        have e1 : oD σ' = oD σ := by unfold oD; rw [g1]
        have e2 : oT σ' = oT σ := by unfold oT; rw [g1]
        have e3 : oH σ' = oH σ := by unfold oH; rw [e1, g2]
        unfold trS
        rw [e1, e2, e3]
      have h10 := h9.kept (μ' := μX') (fun a b hab => g3 a b (by omega) (by omega))
      unfold TourOK at h10 ⊢
      rw [e1]
      exact h10
  · exact Or.inl g
theorem Rel.q {fX fM : am_F} {as : List AV} {σ : Sg} {μX μM : am_M} {v : AV} (hw : wfS σ) (hX : XC σ μX) (hM : RM σ μM) (h1 : QX fX as σ v) (h2 : QM fM as σ v) : ∃ (v : AV) (μX' μM' : am_M), fX (vR 0 :: as) μX = some (some v, μX') ∧ fM (vR 0 :: as) μM = some (some v, μM') ∧ Rel μX' μM' := by
  obtain ⟨μX', a1, a2⟩ := h1 μX hX
  obtain ⟨μM', b1, b2⟩ := h2 μM hM
  exact ⟨v, μX', μM', a1, b1, σ, hw, a2, b2⟩
