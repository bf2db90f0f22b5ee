/-! tour: the class -/
def kcy (Sh : List am_SC) (env vs : List AV) (μ : am_M) : Option ((List AV × am_M) ⊕ (Option AV × am_M)) := match vs with
  | [x, i, y, j, n] => kme (am_cy Sh x i y j n μ) env
  | _ => none
theorem v_cy (Sh : List am_SC) (a : am_L) (env : List AV) (μ : am_M) : s_cy Sh a env μ = am_bd (a env μ) (kcy Sh env) := by
  unfold s_cy kcy kme
  rfl
theorem kcy_5 (Sh : List am_SC) (env : List AV) (x i y j n : AV) (μ : am_M) : kcy Sh env [x, i, y, j, n] μ = kme (am_cy Sh x i y j n μ) env := (rfl)
theorem ur_ne (μ : am_M) {t a : Nat} (f : Nat → Int32) (h : a ≠ t) (b : Nat) : am_ur μ t f a b = μ a b := by unfold am_ur; rw [if_neg h]
theorem ur_eq (μ : am_M) (t : Nat) (f : Nat → Int32) (b : Nat) : am_ur μ t f t b = f b := by unfold am_ur; rw [if_pos rfl]
/-- what was met: rows on the way, or such as nothing better comes of -/
def INV (D : Dd) (t : Nat → Nat) (H : Nat → Nat → Nat × Bool) (r b : Row) (M : Nat → Nat → Bool) : Prop := ∀ c q, vx D t H [] (c :: q) → M (setN (c :: q) * 8 + c.1) c.2 = true → (∃ u v, r = u ++ v ∧ v ≠ [] ∧ eqv (c :: q) v) ∨ Dom D t H (c :: q) b
theorem inv_hit {D : Dd} {t : Nat → Nat} {H : Nat → Nat → Nat × Bool} {r b : Row} {M : Nat → Nat → Bool} {c : Nat × Nat} (h : INV D t H r b M) (hv : vx D t H [] (c :: r)) (hm : M (setN (c :: r) * 8 + c.1) c.2 = true) : Dom D t H (c :: r) b := by
  rcases h c r hv hm with ⟨u, v, h1, h2, h3⟩ | h
  · have e1 := h3.2.2
    have e2 : r.length = u.length + v.length := by rw [h1, List.length_append]
    simp only [List.length_cons] at e1
    omega
  · exact h
theorem inv_push {D : Dd} {t : Nat → Nat} {H : Nat → Nat → Nat × Bool} (hn : dn D ≤ 8) {r b : Row} {M M' : Nat → Nat → Bool} {c : Nat × Nat} (h : INV D t H r b M) (hv : vx D t H [] (c :: r)) (hm : ∀ a u, u < 32 → M' a u = true → M a u = true ∨ (a = setN (c :: r) * 8 + c.1 ∧ u = c.2)) : INV D t H (c :: r) (keepR (c :: r) b) M' := by
  intro d q hq hd
  have h20 := vx_h20 hq
  rw [lh_c] at h20
  rcases hm _ _ (by omega) hd with h1 | ⟨h1, h2⟩
  · rcases h d q hq h1 with ⟨u, v, e1, e2, e3⟩ | e
    · exact Or.inl ⟨c :: u, v, by rw [e1]; rfl, e2, e3⟩
    · exact Or.inr (fun w hw => keep_mono (e w hw))
  · have a1 := hq.2.1
    have a2 := hv.2.1
    have e1 : setN (d :: q) = setN (c :: r) := by omega
    have e2 : d = c := Prod.ext (by omega) h2
    exact Or.inl ⟨[], c :: r, rfl, by simp, eqv_set hq hv e1 (by rw [e2]; rfl)⟩
theorem inv_pop {D : Dd} {t : Nat → Nat} {H : Nat → Nat → Nat × Bool} {r b : Row} {M : Nat → Nat → Bool} {c : Nat × Nat} (h : INV D t H (c :: r) b M) (hd : Dom D t H (c :: r) b) : INV D t H r b M := by
  intro d q hq hm
  rcases h d q hq hm with ⟨u, v, e1, e2, e3⟩ | e
  · cases u with
    | nil =>
      rw [List.nil_append] at e1
      rw [← e1] at e3
      exact Or.inr (e3.sy.dom hd)
    | cons x u =>
      cases e1
      exact Or.inl ⟨u, v, rfl, e2, e3⟩
  · exact Or.inr e
theorem vx_keep {D : Dd} {t : Nat → Nat} {H : Nat → Nat → Nat × Bool} {r b : Row} (h1 : vx D t H [] r) (h2 : vx D t H [] b) : vx D t H [] (keepR r b) := by
  unfold keepR
  split
  · exact h1
  · exact h2
theorem vx_push {D : Dd} {t : Nat → Nat} {H : Nat → Nat → Nat × Bool} {r : Row} {s h : Nat} (h1 : vx D t H [] r) (h2 : s < dn D) (h3 : usedR r s = false) (h4 : nxH D t H r s = some h) : vx D t H [] ((s, h) :: r) := ⟨h1, h2, by rw [List.append_nil]; exact h3, by rw [List.append_nil]; exact h4⟩
theorem rowAt_s (s h : Nat) (r : Row) : rowAt ((s, h) :: r) r.length = s := by
  unfold rowAt
  rw [List.reverse_cons, List.getElem?_append_right (by rw [List.length_reverse]; exact Nat.le_refl _), List.length_reverse, Nat.sub_self]
  rfl
theorem rowAt_lt {c : Nat × Nat} {r : Row} {i : Nat} (h : i < r.length) : rowAt (c :: r) i = rowAt r i := by
  unfold rowAt
  rw [List.reverse_cons, List.getElem?_append_left (by rw [List.length_reverse]; exact h)]
/-- the best as the class keeps it -/
def enB (b : Row) (μ : am_M) : Prop := μ 81 0 = nI b.length ∧ μ 81 1 = oI (lastH b) ∧ ∀ i, i < b.length → μ 82 i = nI (rowAt b i)
def TM (D : Dd) (t : Nat → Nat) (H : Nat → Nat → Nat × Bool) (r b : Row) (μ : am_M) : Prop := enB b μ ∧ μ 81 6 = nI (dn D) ∧ (∀ i, i < r.length → μ 83 i = nI (rowAt r i)) ∧ INV D t H r b (fun a h => bt (μ 84 a) h)
theorem lastH_c (c : Nat × Nat) (r : Row) : lastH (c :: r) = some c.2 := rfl
theorem lastH_ne {b : Row} (h : 1 ≤ b.length) : lastH b = some (lh b) := by
  cases b with
  | nil => simp at h
  | cons c b => rfl
theorem f_keepIfBetter {s h : Nat} {r b : Row} {μ : am_M} (hr : r.length < 8) (hh : h < 20) (hb8 : b.length ≤ 8) (hb20 : lh b < 20) (he : enB b μ) (ht : ∀ i, i < r.length + 1 → μ 83 i = nI (rowAt ((s, h) :: r) i)) : ∃ μ', f_X8_keepIfBetter [vR 81, vI (nI (r.length + 1)), vI (nI h)] μ = some (none, μ') ∧ enB (keepR ((s, h) :: r) b) μ' ∧ Fm (fun a b => (a = 81 ∧ (b = 0 ∨ b = 1)) ∨ a = 82) μ μ' := by
  obtain ⟨x0, x1, x2⟩ := id he
  have cp := am_cy_i (r := 83) (t := 82) (n0 := 8) (n1 := 8) (a := 0) (b := 0) (c := r.length + 1) rfl rfl (by omega) (by omega) (by decide) (by decide) (am_up (am_up μ 81 0 (nI (r.length + 1))) 81 1 (nI h))
  have yes : enB ((s, h) :: r) (am_ur (am_up (am_up μ 81 0 (nI (r.length + 1))) 81 1 (nI h)) 82 (va_cpy (am_up (am_up μ 81 0 (nI (r.length + 1))) 81 1 (nI h) 83) (am_up (am_up μ 81 0 (nI (r.length + 1))) 81 1 (nI h) 82) 0 0 (r.length + 1))) := by
    refine ⟨?_, ?_, fun i hi => ?_⟩
    · rw [ur_ne _ _ (by decide), am_up_ne _ _ (by omega), am_up_eq]
      rfl
    · rw [ur_ne _ _ (by decide), am_up_eq]
      rfl
    · simp only [List.length_cons] at hi
      rw [ur_eq, pk_cpy_in (by omega) (by omega), Nat.sub_zero, Nat.zero_add, am_up_ne _ _ (by omega), am_up_ne _ _ (by omega)]
      exact ht i hi
  have fr : Fm (fun a b => (a = 81 ∧ (b = 0 ∨ b = 1)) ∨ a = 82) μ (am_ur (am_up (am_up μ 81 0 (nI (r.length + 1))) 81 1 (nI h)) 82 (va_cpy (am_up (am_up μ 81 0 (nI (r.length + 1))) 81 1 (nI h) 83) (am_up (am_up μ 81 0 (nI (r.length + 1))) 81 1 (nI h) 82) 0 0 (r.length + 1))) := by
    intro a b' hab
    rw [ur_ne _ _ (by omega), am_up_ne _ _ (by omega), am_up_ne _ _ (by omega)]
  unfold f_X8_keepIfBetter g_X8_keepIfBetter
  by_cases hb : better ((s, h) :: r) b = true
  · have hk : keepR ((s, h) :: r) b = (s, h) :: r := by unfold keepR; rw [if_pos hb]
    rw [hk]
    refine ⟨_, ?_, yes, fr⟩
    rcases better_iff.mp hb with h1 | ⟨h1, h2⟩
    · simp only [List.length_cons] at h1
      simp (disch := first | omega | assumption | exact Or.inl rfl | exact Or.inr rfl | exact bI_ok _) [v_bd, mp_s, v_en, v_k, v_li, li_s, v_ll, ll_s, v_lr, lr_s, v_eu, v_ku, v_eb, v_kb1, v_kb2, v_ec, kc_t, kc_f, v_bz, kz_I, v_b2, v_k21, k22_I, v_and, kan_t, kan_f, v_or, kor_t, kor_f, v_not, v_knt, v_a0, v_a1, v_ka1, v_ka2, v_ek, v_kk, kkr_s, v_sk, v_ks, ksr_s, v_pop, kpop_I, kase_s, v_as, v_kas, v_inc, kme_s, v_pf, v_kpf1, v_kpf2, v_po, v_kpo1, v_kpo2, v_kpo3, v_kpo4, v_ia, v_kia1, v_kia2, v_kia3, v_io, v_kio1, v_kio2, v_kio3, v_kio4, v_kio5, v_s0, v_sq, sqk_l, sqk_r, v_if, kif_t, kif_f, v_no, nok_r, v_bk, bkk_l, bkk_r, v_rtI, krI_s, v_rtL, krL_s, v_rv, v_sw, ksw_I, ksw2_s, v_fn, fnl_t, fnk_r, fnr_t, nr_I, nr_L, nr_n, nr_b, nr_0, nr_1, nr_R, v_cl, v_cs, clk_t, m2_I, m1_I, v_si, v_sr, sik_t, v_sl, slk_t, v_oinc, inck_s, se_0, se_n, se_s, v_nl, v_nl0, nlo_I, nlo_R, nlo_U, nlo_n, v_ii, v_jj, v_ji, v_jc, v_iz, v_iu, v_i2l, c0_eq, c0_ne, c0_lt, c0_ge, c0_gt, c0_le, c2_eq, c2_ne, c2_lt, c2_ge, c2_gt, c2_le, en_n, en_I, en_R, en_L, List.getElem?_cons_zero, List.getElem?_cons_succ, List.getElem?_nil, List.length_cons, List.length_nil, List.take_succ_cons, List.take_zero, List.cons_append, List.nil_append, nI_lit, nN_lit, nI_eq, nI_ltI, nI_leI, nI_add, pk_mul, pk_sub, nI_eN, nN_eI, nN_ltI, nN_leI, nI_ltN, nI_leN, nN_nN, nN_leN, bI_e0, bI_e1, bt_shr, nI_sub_lt, ntT, ntF, nlT, nlF, neT, neF, gv_X_81_0, x0, h1, pv_X_81_0, pv_X_81_1, gv_X_81_4, gv_X_81_2, v_cy, kcy_5, cp]
    · simp only [List.length_cons] at h1
      rw [lh_c] at h2
      rw [lastH_ne (by omega), oI_s] at x1
      rw [← h1] at x0
      have h2 : h < lh b := h2
      simp (disch := first | omega | assumption | exact Or.inl rfl | exact Or.inr rfl | exact bI_ok _) [v_bd, mp_s, v_en, v_k, v_li, li_s, v_ll, ll_s, v_lr, lr_s, v_eu, v_ku, v_eb, v_kb1, v_kb2, v_ec, kc_t, kc_f, v_bz, kz_I, v_b2, v_k21, k22_I, v_and, kan_t, kan_f, v_or, kor_t, kor_f, v_not, v_knt, v_a0, v_a1, v_ka1, v_ka2, v_ek, v_kk, kkr_s, v_sk, v_ks, ksr_s, v_pop, kpop_I, kase_s, v_as, v_kas, v_inc, kme_s, v_pf, v_kpf1, v_kpf2, v_po, v_kpo1, v_kpo2, v_kpo3, v_kpo4, v_ia, v_kia1, v_kia2, v_kia3, v_io, v_kio1, v_kio2, v_kio3, v_kio4, v_kio5, v_s0, v_sq, sqk_l, sqk_r, v_if, kif_t, kif_f, v_no, nok_r, v_bk, bkk_l, bkk_r, v_rtI, krI_s, v_rtL, krL_s, v_rv, v_sw, ksw_I, ksw2_s, v_fn, fnl_t, fnk_r, fnr_t, nr_I, nr_L, nr_n, nr_b, nr_0, nr_1, nr_R, v_cl, v_cs, clk_t, m2_I, m1_I, v_si, v_sr, sik_t, v_sl, slk_t, v_oinc, inck_s, se_0, se_n, se_s, v_nl, v_nl0, nlo_I, nlo_R, nlo_U, nlo_n, v_ii, v_jj, v_ji, v_jc, v_iz, v_iu, v_i2l, c0_eq, c0_ne, c0_lt, c0_ge, c0_gt, c0_le, c2_eq, c2_ne, c2_lt, c2_ge, c2_gt, c2_le, en_n, en_I, en_R, en_L, List.getElem?_cons_zero, List.getElem?_cons_succ, List.getElem?_nil, List.length_cons, List.length_nil, List.take_succ_cons, List.take_zero, List.cons_append, List.nil_append, nI_lit, nN_lit, nI_eq, nI_ltI, nI_leI, nI_add, pk_mul, pk_sub, nI_eN, nN_eI, nN_ltI, nN_leI, nI_ltN, nI_leN, nN_nN, nN_leN, bI_e0, bI_e1, bt_shr, nI_sub_lt, ntT, ntF, nlT, nlF, neT, neF, gv_X_81_0, x0, gv_X_81_1, x1, h2, pv_X_81_0, pv_X_81_1, gv_X_81_4, gv_X_81_2, v_cy, kcy_5, cp]
  · have hb' : better ((s, h) :: r) b = false := by simpa using hb
    rw [keep_no hb']
    refine ⟨μ, ?_, he, Fm.rf⟩
    have h1 := better_no.mp hb'
    rw [lh_c] at h1
    simp only [List.length_cons] at h1
    by_cases h2 : r.length + 1 = b.length
    · rw [lastH_ne (by omega), oI_s] at x1
      rw [← h2] at x0
      have h3 : ¬ h < lh b := fun h9 => h1 (Or.inr ⟨h2, h9⟩)
      simp (disch := first | omega | assumption | exact Or.inl rfl | exact Or.inr rfl | exact bI_ok _) [v_bd, mp_s, v_en, v_k, v_li, li_s, v_ll, ll_s, v_lr, lr_s, v_eu, v_ku, v_eb, v_kb1, v_kb2, v_ec, kc_t, kc_f, v_bz, kz_I, v_b2, v_k21, k22_I, v_and, kan_t, kan_f, v_or, kor_t, kor_f, v_not, v_knt, v_a0, v_a1, v_ka1, v_ka2, v_ek, v_kk, kkr_s, v_sk, v_ks, ksr_s, v_pop, kpop_I, kase_s, v_as, v_kas, v_inc, kme_s, v_pf, v_kpf1, v_kpf2, v_po, v_kpo1, v_kpo2, v_kpo3, v_kpo4, v_ia, v_kia1, v_kia2, v_kia3, v_io, v_kio1, v_kio2, v_kio3, v_kio4, v_kio5, v_s0, v_sq, sqk_l, sqk_r, v_if, kif_t, kif_f, v_no, nok_r, v_bk, bkk_l, bkk_r, v_rtI, krI_s, v_rtL, krL_s, v_rv, v_sw, ksw_I, ksw2_s, v_fn, fnl_t, fnk_r, fnr_t, nr_I, nr_L, nr_n, nr_b, nr_0, nr_1, nr_R, v_cl, v_cs, clk_t, m2_I, m1_I, v_si, v_sr, sik_t, v_sl, slk_t, v_oinc, inck_s, se_0, se_n, se_s, v_nl, v_nl0, nlo_I, nlo_R, nlo_U, nlo_n, v_ii, v_jj, v_ji, v_jc, v_iz, v_iu, v_i2l, c0_eq, c0_ne, c0_lt, c0_ge, c0_gt, c0_le, c2_eq, c2_ne, c2_lt, c2_ge, c2_gt, c2_le, en_n, en_I, en_R, en_L, List.getElem?_cons_zero, List.getElem?_cons_succ, List.getElem?_nil, List.length_cons, List.length_nil, List.take_succ_cons, List.take_zero, List.cons_append, List.nil_append, nI_lit, nN_lit, nI_eq, nI_ltI, nI_leI, nI_add, pk_mul, pk_sub, nI_eN, nN_eI, nN_ltI, nN_leI, nI_ltN, nI_leN, nN_nN, nN_leN, bI_e0, bI_e1, bt_shr, nI_sub_lt, ntT, ntF, nlT, nlF, neT, neF, gv_X_81_0, x0, gv_X_81_1, x1, h3]
    · have h3 : ¬ b.length < r.length + 1 := fun h9 => h1 (Or.inl h9)
      simp (disch := first | omega | assumption | exact Or.inl rfl | exact Or.inr rfl | exact bI_ok _) [v_bd, mp_s, v_en, v_k, v_li, li_s, v_ll, ll_s, v_lr, lr_s, v_eu, v_ku, v_eb, v_kb1, v_kb2, v_ec, kc_t, kc_f, v_bz, kz_I, v_b2, v_k21, k22_I, v_and, kan_t, kan_f, v_or, kor_t, kor_f, v_not, v_knt, v_a0, v_a1, v_ka1, v_ka2, v_ek, v_kk, kkr_s, v_sk, v_ks, ksr_s, v_pop, kpop_I, kase_s, v_as, v_kas, v_inc, kme_s, v_pf, v_kpf1, v_kpf2, v_po, v_kpo1, v_kpo2, v_kpo3, v_kpo4, v_ia, v_kia1, v_kia2, v_kia3, v_io, v_kio1, v_kio2, v_kio3, v_kio4, v_kio5, v_s0, v_sq, sqk_l, sqk_r, v_if, kif_t, kif_f, v_no, nok_r, v_bk, bkk_l, bkk_r, v_rtI, krI_s, v_rtL, krL_s, v_rv, v_sw, ksw_I, ksw2_s, v_fn, fnl_t, fnk_r, fnr_t, nr_I, nr_L, nr_n, nr_b, nr_0, nr_1, nr_R, v_cl, v_cs, clk_t, m2_I, m1_I, v_si, v_sr, sik_t, v_sl, slk_t, v_oinc, inck_s, se_0, se_n, se_s, v_nl, v_nl0, nlo_I, nlo_R, nlo_U, nlo_n, v_ii, v_jj, v_ji, v_jc, v_iz, v_iu, v_i2l, c0_eq, c0_ne, c0_lt, c0_ge, c0_gt, c0_le, c2_eq, c2_ne, c2_lt, c2_ge, c2_gt, c2_le, en_n, en_I, en_R, en_L, List.getElem?_cons_zero, List.getElem?_cons_succ, List.getElem?_nil, List.length_cons, List.length_nil, List.take_succ_cons, List.take_zero, List.cons_append, List.nil_append, nI_lit, nN_lit, nI_eq, nI_ltI, nI_leI, nI_add, pk_mul, pk_sub, nI_eN, nN_eI, nN_ltI, nN_leI, nI_ltN, nI_leN, nN_nN, nN_leN, bI_e0, bI_e1, bt_shr, nI_sub_lt, ntT, ntF, nlT, nlF, neT, neF, gv_X_81_0, x0, h2, h3]
theorem am_min_n {a b : Nat} (ha : a < 2 ^ 31) (hb : b < 2 ^ 31) : am_min (nI a) (nI b) = nI (min a b) := by
  unfold am_min
  by_cases h : b < a
  · rw [if_pos ((nI_ltI hb ha).mpr h), Nat.min_eq_right (by omega)]
  · rw [if_neg (fun h9 => h ((nI_ltI hb ha).mp h9)), Nat.min_eq_left (by omega)]
theorem f_mayGetBetter {n s h : Nat} {r b : Row} {μ : am_M} (hn : n ≤ 8) (hr : r.length < n) (hh : h < 20) (hb8 : b.length ≤ 8) (hb20 : lh b < 20) (hrb : r.length + 1 ≤ b.length) (he : enB b μ) (h6 : μ 81 6 = nI n) : f_X8_mayGetBetter [vR 81, vI (nI (r.length + 1)), vI (nI h)] μ = some (some (vI (bI (mgb n ((s, h) :: r) b))), μ) := by
  obtain ⟨x0, x1, x2⟩ := he
  rw [lastH_ne (by omega), oI_s] at x1
  have m1 := am_min_n (a := n - (r.length + 1)) (b := 19 - h) (by omega) (by omega)
  have e1 : mgb n ((s, h) :: r) b = (decide (b.length < r.length + 1 + min (n - (r.length + 1)) (19 - h)) || (decide (r.length + 1 + min (n - (r.length + 1)) (19 - h) = b.length) && decide (h + b.length - (r.length + 1) < lh b))) := rfl
  rw [e1]
  unfold f_X8_mayGetBetter g_X8_mayGetBetter
  generalize hmm : min (n - (r.length + 1)) (19 - h) = mm at *
  have lm : mm ≤ 19 := by omega
  by_cases d1 : b.length < r.length + 1 + mm
  · rw [decide_eq_true d1]
    simp (disch := first | omega | assumption | exact Or.inl rfl | exact Or.inr rfl | exact bI_ok _) [v_bd, mp_s, v_en, v_k, v_li, li_s, v_ll, ll_s, v_lr, lr_s, v_eu, v_ku, v_eb, v_kb1, v_kb2, v_ec, kc_t, kc_f, v_bz, kz_I, v_b2, v_k21, k22_I, v_and, kan_t, kan_f, v_or, kor_t, kor_f, v_not, v_knt, v_a0, v_a1, v_ka1, v_ka2, v_ek, v_kk, kkr_s, v_sk, v_ks, ksr_s, v_pop, kpop_I, kase_s, v_as, v_kas, v_inc, kme_s, v_pf, v_kpf1, v_kpf2, v_po, v_kpo1, v_kpo2, v_kpo3, v_kpo4, v_ia, v_kia1, v_kia2, v_kia3, v_io, v_kio1, v_kio2, v_kio3, v_kio4, v_kio5, v_s0, v_sq, sqk_l, sqk_r, v_if, kif_t, kif_f, v_no, nok_r, v_bk, bkk_l, bkk_r, v_rtI, krI_s, v_rtL, krL_s, v_rv, v_sw, ksw_I, ksw2_s, v_fn, fnl_t, fnk_r, fnr_t, nr_I, nr_L, nr_n, nr_b, nr_0, nr_1, nr_R, v_cl, v_cs, clk_t, m2_I, m1_I, v_si, v_sr, sik_t, v_sl, slk_t, v_oinc, inck_s, se_0, se_n, se_s, v_nl, v_nl0, nlo_I, nlo_R, nlo_U, nlo_n, v_ii, v_jj, v_ji, v_jc, v_iz, v_iu, v_i2l, c0_eq, c0_ne, c0_lt, c0_ge, c0_gt, c0_le, c2_eq, c2_ne, c2_lt, c2_ge, c2_gt, c2_le, en_n, en_I, en_R, en_L, List.getElem?_cons_zero, List.getElem?_cons_succ, List.getElem?_nil, List.length_cons, List.length_nil, List.take_succ_cons, List.take_zero, List.cons_append, List.nil_append, nI_lit, nN_lit, nI_eq, nI_ltI, nI_leI, nI_add, pk_mul, pk_sub, nI_eN, nN_eI, nN_ltI, nN_leI, nI_ltN, nI_leN, nN_nN, nN_leN, bI_e0, bI_e1, bt_shr, nI_sub_lt, ntT, ntF, nlT, nlF, neT, neF, gv_X_81_6, h6, m1, gv_X_81_0, x0, d1, bI]
  · by_cases d2 : r.length + 1 + mm = b.length
    · by_cases d3 : h + b.length - (r.length + 1) < lh b
      · rw [decide_eq_false d1, decide_eq_true d2, decide_eq_true d3]
        simp (disch := first | omega | assumption | exact Or.inl rfl | exact Or.inr rfl | exact bI_ok _) [v_bd, mp_s, v_en, v_k, v_li, li_s, v_ll, ll_s, v_lr, lr_s, v_eu, v_ku, v_eb, v_kb1, v_kb2, v_ec, kc_t, kc_f, v_bz, kz_I, v_b2, v_k21, k22_I, v_and, kan_t, kan_f, v_or, kor_t, kor_f, v_not, v_knt, v_a0, v_a1, v_ka1, v_ka2, v_ek, v_kk, kkr_s, v_sk, v_ks, ksr_s, v_pop, kpop_I, kase_s, v_as, v_kas, v_inc, kme_s, v_pf, v_kpf1, v_kpf2, v_po, v_kpo1, v_kpo2, v_kpo3, v_kpo4, v_ia, v_kia1, v_kia2, v_kia3, v_io, v_kio1, v_kio2, v_kio3, v_kio4, v_kio5, v_s0, v_sq, sqk_l, sqk_r, v_if, kif_t, kif_f, v_no, nok_r, v_bk, bkk_l, bkk_r, v_rtI, krI_s, v_rtL, krL_s, v_rv, v_sw, ksw_I, ksw2_s, v_fn, fnl_t, fnk_r, fnr_t, nr_I, nr_L, nr_n, nr_b, nr_0, nr_1, nr_R, v_cl, v_cs, clk_t, m2_I, m1_I, v_si, v_sr, sik_t, v_sl, slk_t, v_oinc, inck_s, se_0, se_n, se_s, v_nl, v_nl0, nlo_I, nlo_R, nlo_U, nlo_n, v_ii, v_jj, v_ji, v_jc, v_iz, v_iu, v_i2l, c0_eq, c0_ne, c0_lt, c0_ge, c0_gt, c0_le, c2_eq, c2_ne, c2_lt, c2_ge, c2_gt, c2_le, en_n, en_I, en_R, en_L, List.getElem?_cons_zero, List.getElem?_cons_succ, List.getElem?_nil, List.length_cons, List.length_nil, List.take_succ_cons, List.take_zero, List.cons_append, List.nil_append, nI_lit, nN_lit, nI_eq, nI_ltI, nI_leI, nI_add, pk_mul, pk_sub, nI_eN, nN_eI, nN_ltI, nN_leI, nI_ltN, nI_leN, nN_nN, nN_leN, bI_e0, bI_e1, bt_shr, nI_sub_lt, ntT, ntF, nlT, nlF, neT, neF, gv_X_81_6, h6, m1, gv_X_81_0, x0, d1, d2, gv_X_81_1, x1, d3, bI]
      · rw [decide_eq_false d1, decide_eq_true d2, decide_eq_false d3]
        simp (disch := first | omega | assumption | exact Or.inl rfl | exact Or.inr rfl | exact bI_ok _) [v_bd, mp_s, v_en, v_k, v_li, li_s, v_ll, ll_s, v_lr, lr_s, v_eu, v_ku, v_eb, v_kb1, v_kb2, v_ec, kc_t, kc_f, v_bz, kz_I, v_b2, v_k21, k22_I, v_and, kan_t, kan_f, v_or, kor_t, kor_f, v_not, v_knt, v_a0, v_a1, v_ka1, v_ka2, v_ek, v_kk, kkr_s, v_sk, v_ks, ksr_s, v_pop, kpop_I, kase_s, v_as, v_kas, v_inc, kme_s, v_pf, v_kpf1, v_kpf2, v_po, v_kpo1, v_kpo2, v_kpo3, v_kpo4, v_ia, v_kia1, v_kia2, v_kia3, v_io, v_kio1, v_kio2, v_kio3, v_kio4, v_kio5, v_s0, v_sq, sqk_l, sqk_r, v_if, kif_t, kif_f, v_no, nok_r, v_bk, bkk_l, bkk_r, v_rtI, krI_s, v_rtL, krL_s, v_rv, v_sw, ksw_I, ksw2_s, v_fn, fnl_t, fnk_r, fnr_t, nr_I, nr_L, nr_n, nr_b, nr_0, nr_1, nr_R, v_cl, v_cs, clk_t, m2_I, m1_I, v_si, v_sr, sik_t, v_sl, slk_t, v_oinc, inck_s, se_0, se_n, se_s, v_nl, v_nl0, nlo_I, nlo_R, nlo_U, nlo_n, v_ii, v_jj, v_ji, v_jc, v_iz, v_iu, v_i2l, c0_eq, c0_ne, c0_lt, c0_ge, c0_gt, c0_le, c2_eq, c2_ne, c2_lt, c2_ge, c2_gt, c2_le, en_n, en_I, en_R, en_L, List.getElem?_cons_zero, List.getElem?_cons_succ, List.getElem?_nil, List.length_cons, List.length_nil, List.take_succ_cons, List.take_zero, List.cons_append, List.nil_append, nI_lit, nN_lit, nI_eq, nI_ltI, nI_leI, nI_add, pk_mul, pk_sub, nI_eN, nN_eI, nN_ltI, nN_leI, nI_ltN, nI_leN, nN_nN, nN_leN, bI_e0, bI_e1, bt_shr, nI_sub_lt, ntT, ntF, nlT, nlF, neT, neF, gv_X_81_6, h6, m1, gv_X_81_0, x0, d1, d2, gv_X_81_1, x1, d3, bI]
    · rw [decide_eq_false d1, decide_eq_false d2]
      simp (disch := first | omega | assumption | exact Or.inl rfl | exact Or.inr rfl | exact bI_ok _) [v_bd, mp_s, v_en, v_k, v_li, li_s, v_ll, ll_s, v_lr, lr_s, v_eu, v_ku, v_eb, v_kb1, v_kb2, v_ec, kc_t, kc_f, v_bz, kz_I, v_b2, v_k21, k22_I, v_and, kan_t, kan_f, v_or, kor_t, kor_f, v_not, v_knt, v_a0, v_a1, v_ka1, v_ka2, v_ek, v_kk, kkr_s, v_sk, v_ks, ksr_s, v_pop, kpop_I, kase_s, v_as, v_kas, v_inc, kme_s, v_pf, v_kpf1, v_kpf2, v_po, v_kpo1, v_kpo2, v_kpo3, v_kpo4, v_ia, v_kia1, v_kia2, v_kia3, v_io, v_kio1, v_kio2, v_kio3, v_kio4, v_kio5, v_s0, v_sq, sqk_l, sqk_r, v_if, kif_t, kif_f, v_no, nok_r, v_bk, bkk_l, bkk_r, v_rtI, krI_s, v_rtL, krL_s, v_rv, v_sw, ksw_I, ksw2_s, v_fn, fnl_t, fnk_r, fnr_t, nr_I, nr_L, nr_n, nr_b, nr_0, nr_1, nr_R, v_cl, v_cs, clk_t, m2_I, m1_I, v_si, v_sr, sik_t, v_sl, slk_t, v_oinc, inck_s, se_0, se_n, se_s, v_nl, v_nl0, nlo_I, nlo_R, nlo_U, nlo_n, v_ii, v_jj, v_ji, v_jc, v_iz, v_iu, v_i2l, c0_eq, c0_ne, c0_lt, c0_ge, c0_gt, c0_le, c2_eq, c2_ne, c2_lt, c2_ge, c2_gt, c2_le, en_n, en_I, en_R, en_L, List.getElem?_cons_zero, List.getElem?_cons_succ, List.getElem?_nil, List.length_cons, List.length_nil, List.take_succ_cons, List.take_zero, List.cons_append, List.nil_append, nI_lit, nN_lit, nI_eq, nI_ltI, nI_leI, nI_add, pk_mul, pk_sub, nI_eN, nN_eI, nN_ltI, nN_leI, nI_ltN, nI_leN, nN_nN, nN_leN, bI_e0, bI_e1, bt_shr, nI_sub_lt, ntT, ntF, nlT, nlF, neT, neF, gv_X_81_6, h6, m1, gv_X_81_0, x0, d1, d2, bI]
theorem setN_or (r : Row) {s : Nat} (hs : s < 8) (h : Nat) : nI (setN r) ||| (nI 1 <<< (nI s &&& nI 31)) = nI (setN ((s, h) :: r)) := by
  refine bt_ext (fun k hk => ?_)
  rw [bt_or, bt_nI _ hk, bt_nI _ hk, bt_shl (by omega) hk]
  show _ = (setN r ||| 2 ^ s).testBit k
  rw [Nat.testBit_or, Nat.testBit_two_pow]
  congr 1
  exact decide_eq_decide.mpr eq_comm
