/-! save: the class; eight bits -/
def m8 (b0 b1 b2 b3 b4 b5 b6 b7 : Bool) : Nat → Bool
  | 0 => b0
  | 1 => b1
  | 2 => b2
  | 3 => b3
  | 4 => b4
  | 5 => b5
  | 6 => b6
  | 7 => b7
  | _ => false
theorem m8_eq (p : Nat → Bool) {i : Nat} (hi : i < 8) : p i = m8 (p 0) (p 1) (p 2) (p 3) (p 4) (p 5) (p 6) (p 7) i := by
  match i, hi with
  | 0, _ => rfl
  | 1, _ => rfl
  | 2, _ => rfl
  | 3, _ => rfl
  | 4, _ => rfl
  | 5, _ => rfl
  | 6, _ => rfl
  | 7, _ => rfl
  | n + 8, h => omega
/-- p below n only -/
def msk (p : Nat → Bool) (n i : Nat) : Bool := decide (i < n) && p i
theorem msk_in {p : Nat → Bool} {n i : Nat} (h : i < n) : msk p n i = p i := by unfold msk; rw [decide_eq_true h, Bool.true_and]
theorem bitF_msk (p : Nat → Bool) {n : Nat} (hn : n ≤ 8) : bitF p n = bitF (msk p n) 8 := by
  refine bt_ext (fun k hk => ?_)
  rw [bitF_bt (by omega) hk, bitF_bt (by omega) hk]
  unfold msk
  by_cases h : k < n
  · simp [h, show k < 8 by omega]
  · simp [h]
theorem cnt_congr {p q : Nat → Bool} {n : Nat} (h : ∀ i, i < n → p i = q i) : cnt p n = cnt q n := fd_congr (fun i a hi => by rw [h i hi]) _
theorem cnt_add {p : Nat → Bool} {n : Nat} : ∀ d, (∀ i, n ≤ i → p i = false) → cnt p (n + d) = cnt p n
  | 0, _ => rfl
  | d + 1, h => by
    show (if p (n + d) = true then cnt p (n + d) + 1 else cnt p (n + d)) = _
    rw [h (n + d) (by omega), cnt_add d h]
    simp
theorem cnt_msk (p : Nat → Bool) {n : Nat} (hn : n ≤ 8) : cnt p n = cnt (msk p n) 8 := by
  have h := cnt_add (p := msk p n) (n := n) (8 - n) (fun i hi => by unfold msk; rw [decide_eq_false (by omega), Bool.false_and])
  rw [show n + (8 - n) = 8 by omega] at h
  rw [h]
  exact cnt_congr (fun i hi => (msk_in hi).symm)
/-- Integer.bitCount -/
def bcI (x : Int32) : Int32 :=
  let u (x : Int32) (k : Int32) : Int32 := (x.toUInt32 >>> (k.toUInt32 &&& Int32.toUInt32 31)).toInt32
  let a := x - (u x 1 &&& 1431655765)
  let b := (a &&& 858993459) + (u a 2 &&& 858993459)
  let c := (b + u b 4) &&& 252645135
  let d := c + u c 8
  let e := d + u d 16
  e &&& 63
theorem f_bitCount (x : Int32) (μ : am_M) : f_J6_bitCount_0f7a4 [vI x] μ = some (some (vI (bcI x)), μ) := by
  unfold f_J6_bitCount_0f7a4 g_J6_bitCount_0f7a4
  simp (disch := first | omega | assumption) only [v_bd, mp_s, v_en, v_k, v_li, li_s, v_ll, ll_s, v_lr, lr_s, v_eu, v_ku, v_eb, v_kb1, v_kb2, v_ec, kc_t, kc_f, v_bz, kz_I, v_b2, v_k21, k22_I, v_and, kan_t, kan_f, v_or, kor_t, kor_f, v_not, v_knt, v_a0, v_a1, v_ka1, v_ka2, v_ek, v_kk, kkr_s, v_sk, v_ks, ksr_s, v_pop, kpop_I, kase_s, v_as, v_kas, v_inc, kme_s, v_pf, v_kpf1, v_kpf2, v_po, v_kpo1, v_kpo2, v_kpo3, v_kpo4, v_ia, v_kia1, v_kia2, v_kia3, v_io, v_kio1, v_kio2, v_kio3, v_kio4, v_kio5, v_s0, v_sq, sqk_l, sqk_r, v_if, kif_t, kif_f, v_no, nok_r, v_bk, bkk_l, bkk_r, v_rtI, krI_s, v_rtL, krL_s, v_rv, v_sw, ksw_I, ksw2_s, v_fn, fnl_t, fnk_r, fnr_t, nr_I, nr_L, nr_n, nr_b, nr_0, nr_1, nr_R, v_cl, v_cs, clk_t, m2_I, m1_I, v_si, v_sr, sik_t, v_sl, slk_t, v_oinc, inck_s, se_0, se_n, se_s, v_nl, v_nl0, nlo_I, nlo_R, nlo_U, nlo_n, v_ii, v_jj, v_ji, v_jc, v_iz, v_iu, v_i2l, c0_eq, c0_ne, c0_lt, c0_ge, c0_gt, c0_le, c2_eq, c2_ne, c2_lt, c2_ge, c2_gt, c2_le, en_n, en_I, en_R, en_L, List.getElem?_cons_zero, List.getElem?_cons_succ, List.getElem?_nil, List.length_cons, List.length_nil, List.take_succ_cons, List.take_zero, List.cons_append, List.nil_append]
  rfl
theorem bc8 : ∀ b0 b1 b2 b3 b4 b5 b6 b7 : Bool, bcI (bitF (m8 b0 b1 b2 b3 b4 b5 b6 b7) 8) = nI (cnt (m8 b0 b1 b2 b3 b4 b5 b6 b7) 8) := by decide +kernel
theorem bc_cnt (p : Nat → Bool) {n : Nat} (hn : n ≤ 8) : bcI (bitF p n) = nI (cnt p n) := by
  rw [bitF_msk p hn, cnt_msk p hn, bitF_congr (fun i hi => m8_eq (msk p n) hi), cnt_congr (fun i hi => m8_eq (msk p n) hi)]
  exact bc8 _ _ _ _ _ _ _ _
/-- the j-th bit -/
def jth (p : Nat → Bool) (j : Nat) : Option Nat := fnd (fun k => p k && decide (cnt p k = j)) 8
theorem f_bitAt (x : Int32) {j : Nat} (hj : j < 2) (μ : am_M) : f_X10_bitAt [vI x, vI (nI j)] μ = some (some (vI (oI (jth (bt x) j))), μ) := by
  unfold f_X10_bitAt g_X10_bitAt
  generalize hc1 : (b_2 .lt (e_li 3) (e_i 8)) = c1; generalize hb1 : (s_sq (s_if (b_z .ne (e_b o_iand (e_b o_ishr (e_li 0) (e_li 3)) (e_i 1))) (s_sq (s_if (b_z .eq (e_li 2)) (s_rt .ireturn (e_li 3)) s_0) (s_inc 4 2 (-1))) s_0) (s_inc 4 3 1)) = b1
  have key := lp_invr (c := c1) (b := b1) (fun k e μ' => e = [vI x, vI (nI j), vI (nI (j - cnt (bt x) k)), vI (nI k)] ∧ μ' = μ ∧ cnt (bt x) k ≤ j ∧ ∀ i, i < k → (bt x i && decide (cnt (bt x) i = j)) = false) (fun k r μ' => r = some (vI (nI k)) ∧ μ' = μ ∧ (bt x k && decide (cnt (bt x) k = j)) = true ∧ ∀ i, i < k → (bt x i && decide (cnt (bt x) i = j)) = false) 8 ?_ ?_ 8 0 _ μ (by omega) ⟨rfl, rfl, Nat.zero_le _, fun i hi => by omega⟩
  · unfold jth
    rcases key with ⟨e', μ1, g1, rfl, rfl, g2, g3⟩ | ⟨a, r, μ1, a0, g1, rfl, rfl, g3, g4⟩
    · rw [show j - cnt (bt x) 0 = j from Nat.sub_zero j] at g1
      rw [fnd_none.mpr g3]
      simp (disch := first | omega | assumption | exact Or.inl rfl | exact Or.inr rfl | exact bI_ok _) [v_bd, mp_s, v_en, v_k, v_li, li_s, v_ll, ll_s, v_lr, lr_s, v_eu, v_ku, v_eb, v_kb1, v_kb2, v_ec, kc_t, kc_f, v_bz, kz_I, v_b2, v_k21, k22_I, v_and, kan_t, kan_f, v_or, kor_t, kor_f, v_not, v_knt, v_a0, v_a1, v_ka1, v_ka2, v_ek, v_kk, kkr_s, v_sk, v_ks, ksr_s, v_pop, kpop_I, kase_s, v_as, v_kas, v_inc, kme_s, v_pf, v_kpf1, v_kpf2, v_po, v_kpo1, v_kpo2, v_kpo3, v_kpo4, v_ia, v_kia1, v_kia2, v_kia3, v_io, v_kio1, v_kio2, v_kio3, v_kio4, v_kio5, v_s0, v_sq, sqk_l, sqk_r, v_if, kif_t, kif_f, v_no, nok_r, v_bk, bkk_l, bkk_r, v_rtI, krI_s, v_rtL, krL_s, v_rv, v_sw, ksw_I, ksw2_s, v_fn, fnl_t, fnk_r, fnr_t, nr_I, nr_L, nr_n, nr_b, nr_0, nr_1, nr_R, v_cl, v_cs, clk_t, m2_I, m1_I, v_si, v_sr, sik_t, v_sl, slk_t, v_oinc, inck_s, se_0, se_n, se_s, v_nl, v_nl0, nlo_I, nlo_R, nlo_U, nlo_n, v_ii, v_jj, v_ji, v_jc, v_iz, v_iu, v_i2l, c0_eq, c0_ne, c0_lt, c0_ge, c0_gt, c0_le, c2_eq, c2_ne, c2_lt, c2_ge, c2_gt, c2_le, en_n, en_I, en_R, en_L, List.getElem?_cons_zero, List.getElem?_cons_succ, List.getElem?_nil, List.length_cons, List.length_nil, List.take_succ_cons, List.take_zero, List.cons_append, List.nil_append, nI_lit, nN_lit, nI_eq, nI_ltI, nI_leI, nI_add, pk_mul, pk_sub, nI_eN, nN_eI, nN_ltI, nN_leI, nI_ltN, nI_leN, nN_nN, nN_leN, bI_e0, bI_e1, bt_shr, nI_sub_lt, ntT, ntF, nlT, nlF, neT, neF, g1, oI]
    · rw [show j - cnt (bt x) 0 = j from Nat.sub_zero j] at g1
      rw [fnd_some.mpr ⟨a0, g3, g4⟩]
      simp (disch := first | omega | assumption | exact Or.inl rfl | exact Or.inr rfl | exact bI_ok _) [v_bd, mp_s, v_en, v_k, v_li, li_s, v_ll, ll_s, v_lr, lr_s, v_eu, v_ku, v_eb, v_kb1, v_kb2, v_ec, kc_t, kc_f, v_bz, kz_I, v_b2, v_k21, k22_I, v_and, kan_t, kan_f, v_or, kor_t, kor_f, v_not, v_knt, v_a0, v_a1, v_ka1, v_ka2, v_ek, v_kk, kkr_s, v_sk, v_ks, ksr_s, v_pop, kpop_I, kase_s, v_as, v_kas, v_inc, kme_s, v_pf, v_kpf1, v_kpf2, v_po, v_kpo1, v_kpo2, v_kpo3, v_kpo4, v_ia, v_kia1, v_kia2, v_kia3, v_io, v_kio1, v_kio2, v_kio3, v_kio4, v_kio5, v_s0, v_sq, sqk_l, sqk_r, v_if, kif_t, kif_f, v_no, nok_r, v_bk, bkk_l, bkk_r, v_rtI, krI_s, v_rtL, krL_s, v_rv, v_sw, ksw_I, ksw2_s, v_fn, fnl_t, fnk_r, fnr_t, nr_I, nr_L, nr_n, nr_b, nr_0, nr_1, nr_R, v_cl, v_cs, clk_t, m2_I, m1_I, v_si, v_sr, sik_t, v_sl, slk_t, v_oinc, inck_s, se_0, se_n, se_s, v_nl, v_nl0, nlo_I, nlo_R, nlo_U, nlo_n, v_ii, v_jj, v_ji, v_jc, v_iz, v_iu, v_i2l, c0_eq, c0_ne, c0_lt, c0_ge, c0_gt, c0_le, c2_eq, c2_ne, c2_lt, c2_ge, c2_gt, c2_le, en_n, en_I, en_R, en_L, List.getElem?_cons_zero, List.getElem?_cons_succ, List.getElem?_nil, List.length_cons, List.length_nil, List.take_succ_cons, List.take_zero, List.cons_append, List.nil_append, nI_lit, nN_lit, nI_eq, nI_ltI, nI_leI, nI_add, pk_mul, pk_sub, nI_eN, nN_eI, nN_ltI, nN_leI, nI_ltN, nI_leN, nN_nN, nN_leN, bI_e0, bI_e1, bt_shr, nI_sub_lt, ntT, ntF, nlT, nlF, neT, neF, g1, oI]
  · rintro k e μ' hk ⟨rfl, rfl, i3, i4⟩
    subst hc1 hb1
    have lc := cnt_le (bt x) k
    have e1 := cnt_s (bt x) k
    refine ⟨by simp (disch := first | omega | assumption | exact Or.inl rfl | exact Or.inr rfl | exact bI_ok _) [v_bd, mp_s, v_en, v_k, v_li, li_s, v_ll, ll_s, v_lr, lr_s, v_eu, v_ku, v_eb, v_kb1, v_kb2, v_ec, kc_t, kc_f, v_bz, kz_I, v_b2, v_k21, k22_I, v_and, kan_t, kan_f, v_or, kor_t, kor_f, v_not, v_knt, v_a0, v_a1, v_ka1, v_ka2, v_ek, v_kk, kkr_s, v_sk, v_ks, ksr_s, v_pop, kpop_I, kase_s, v_as, v_kas, v_inc, kme_s, v_pf, v_kpf1, v_kpf2, v_po, v_kpo1, v_kpo2, v_kpo3, v_kpo4, v_ia, v_kia1, v_kia2, v_kia3, v_io, v_kio1, v_kio2, v_kio3, v_kio4, v_kio5, v_s0, v_sq, sqk_l, sqk_r, v_if, kif_t, kif_f, v_no, nok_r, v_bk, bkk_l, bkk_r, v_rtI, krI_s, v_rtL, krL_s, v_rv, v_sw, ksw_I, ksw2_s, v_fn, fnl_t, fnk_r, fnr_t, nr_I, nr_L, nr_n, nr_b, nr_0, nr_1, nr_R, v_cl, v_cs, clk_t, m2_I, m1_I, v_si, v_sr, sik_t, v_sl, slk_t, v_oinc, inck_s, se_0, se_n, se_s, v_nl, v_nl0, nlo_I, nlo_R, nlo_U, nlo_n, v_ii, v_jj, v_ji, v_jc, v_iz, v_iu, v_i2l, c0_eq, c0_ne, c0_lt, c0_ge, c0_gt, c0_le, c2_eq, c2_ne, c2_lt, c2_ge, c2_gt, c2_le, en_n, en_I, en_R, en_L, List.getElem?_cons_zero, List.getElem?_cons_succ, List.getElem?_nil, List.length_cons, List.length_nil, List.take_succ_cons, List.take_zero, List.cons_append, List.nil_append, nI_lit, nN_lit, nI_eq, nI_ltI, nI_leI, nI_add, pk_mul, pk_sub, nI_eN, nN_eI, nN_ltI, nN_leI, nI_ltN, nI_leN, nN_nN, nN_leN, bI_e0, bI_e1, bt_shr, nI_sub_lt, ntT, ntF, nlT, nlF, neT, neF, ], ?_⟩
    cases hb : bt x k
    · rw [hb] at e1
      simp only [Bool.false_eq_true, if_false] at e1
      refine Or.inl ⟨[vI x, vI (nI j), vI (nI (j - cnt (bt x) k)), vI (nI (k + 1))], μ', by simp (disch := first | omega | assumption | exact Or.inl rfl | exact Or.inr rfl | exact bI_ok _) [v_bd, mp_s, v_en, v_k, v_li, li_s, v_ll, ll_s, v_lr, lr_s, v_eu, v_ku, v_eb, v_kb1, v_kb2, v_ec, kc_t, kc_f, v_bz, kz_I, v_b2, v_k21, k22_I, v_and, kan_t, kan_f, v_or, kor_t, kor_f, v_not, v_knt, v_a0, v_a1, v_ka1, v_ka2, v_ek, v_kk, kkr_s, v_sk, v_ks, ksr_s, v_pop, kpop_I, kase_s, v_as, v_kas, v_inc, kme_s, v_pf, v_kpf1, v_kpf2, v_po, v_kpo1, v_kpo2, v_kpo3, v_kpo4, v_ia, v_kia1, v_kia2, v_kia3, v_io, v_kio1, v_kio2, v_kio3, v_kio4, v_kio5, v_s0, v_sq, sqk_l, sqk_r, v_if, kif_t, kif_f, v_no, nok_r, v_bk, bkk_l, bkk_r, v_rtI, krI_s, v_rtL, krL_s, v_rv, v_sw, ksw_I, ksw2_s, v_fn, fnl_t, fnk_r, fnr_t, nr_I, nr_L, nr_n, nr_b, nr_0, nr_1, nr_R, v_cl, v_cs, clk_t, m2_I, m1_I, v_si, v_sr, sik_t, v_sl, slk_t, v_oinc, inck_s, se_0, se_n, se_s, v_nl, v_nl0, nlo_I, nlo_R, nlo_U, nlo_n, v_ii, v_jj, v_ji, v_jc, v_iz, v_iu, v_i2l, c0_eq, c0_ne, c0_lt, c0_ge, c0_gt, c0_le, c2_eq, c2_ne, c2_lt, c2_ge, c2_gt, c2_le, en_n, en_I, en_R, en_L, List.getElem?_cons_zero, List.getElem?_cons_succ, List.getElem?_nil, List.length_cons, List.length_nil, List.take_succ_cons, List.take_zero, List.cons_append, List.nil_append, nI_lit, nN_lit, nI_eq, nI_ltI, nI_leI, nI_add, pk_mul, pk_sub, nI_eN, nN_eI, nN_ltI, nN_leI, nI_ltN, nI_leN, nN_nN, nN_leN, bI_e0, bI_e1, bt_shr, nI_sub_lt, ntT, ntF, nlT, nlF, neT, neF, hb], by rw [e1], rfl, by omega, fun i hi => ?_⟩
      by_cases e9 : i = k
      · rw [e9, hb, Bool.false_and]
      · exact i4 i (by omega)
    · rw [hb] at e1
      simp only [if_true] at e1
      by_cases d : cnt (bt x) k = j
      · refine Or.inr ⟨some (vI (nI k)), μ', ?_, rfl, rfl, by rw [decide_eq_true d]; rfl, i4⟩
        have e2 : j - cnt (bt x) k = 0 := by omega
        rw [e2]
        simp (disch := first | omega | assumption | exact Or.inl rfl | exact Or.inr rfl | exact bI_ok _) [v_bd, mp_s, v_en, v_k, v_li, li_s, v_ll, ll_s, v_lr, lr_s, v_eu, v_ku, v_eb, v_kb1, v_kb2, v_ec, kc_t, kc_f, v_bz, kz_I, v_b2, v_k21, k22_I, v_and, kan_t, kan_f, v_or, kor_t, kor_f, v_not, v_knt, v_a0, v_a1, v_ka1, v_ka2, v_ek, v_kk, kkr_s, v_sk, v_ks, ksr_s, v_pop, kpop_I, kase_s, v_as, v_kas, v_inc, kme_s, v_pf, v_kpf1, v_kpf2, v_po, v_kpo1, v_kpo2, v_kpo3, v_kpo4, v_ia, v_kia1, v_kia2, v_kia3, v_io, v_kio1, v_kio2, v_kio3, v_kio4, v_kio5, v_s0, v_sq, sqk_l, sqk_r, v_if, kif_t, kif_f, v_no, nok_r, v_bk, bkk_l, bkk_r, v_rtI, krI_s, v_rtL, krL_s, v_rv, v_sw, ksw_I, ksw2_s, v_fn, fnl_t, fnk_r, fnr_t, nr_I, nr_L, nr_n, nr_b, nr_0, nr_1, nr_R, v_cl, v_cs, clk_t, m2_I, m1_I, v_si, v_sr, sik_t, v_sl, slk_t, v_oinc, inck_s, se_0, se_n, se_s, v_nl, v_nl0, nlo_I, nlo_R, nlo_U, nlo_n, v_ii, v_jj, v_ji, v_jc, v_iz, v_iu, v_i2l, c0_eq, c0_ne, c0_lt, c0_ge, c0_gt, c0_le, c2_eq, c2_ne, c2_lt, c2_ge, c2_gt, c2_le, en_n, en_I, en_R, en_L, List.getElem?_cons_zero, List.getElem?_cons_succ, List.getElem?_nil, List.length_cons, List.length_nil, List.take_succ_cons, List.take_zero, List.cons_append, List.nil_append, nI_lit, nN_lit, nI_eq, nI_ltI, nI_leI, nI_add, pk_mul, pk_sub, nI_eN, nN_eI, nN_ltI, nN_leI, nI_ltN, nI_leN, nN_nN, nN_leN, bI_e0, bI_e1, bt_shr, nI_sub_lt, ntT, ntF, nlT, nlF, neT, neF, hb]
      · have e2 : ∃ m, j - cnt (bt x) k = m + 1 := ⟨j - cnt (bt x) k - 1, by omega⟩
        obtain ⟨m, hm⟩ := e2
        have e3 : nI (m + 1) + nN = nI m := pk_m1 m
        refine Or.inl ⟨[vI x, vI (nI j), vI (nI m), vI (nI (k + 1))], μ', by rw [hm]; simp (disch := first | omega | assumption | exact Or.inl rfl | exact Or.inr rfl | exact bI_ok _) [v_bd, mp_s, v_en, v_k, v_li, li_s, v_ll, ll_s, v_lr, lr_s, v_eu, v_ku, v_eb, v_kb1, v_kb2, v_ec, kc_t, kc_f, v_bz, kz_I, v_b2, v_k21, k22_I, v_and, kan_t, kan_f, v_or, kor_t, kor_f, v_not, v_knt, v_a0, v_a1, v_ka1, v_ka2, v_ek, v_kk, kkr_s, v_sk, v_ks, ksr_s, v_pop, kpop_I, kase_s, v_as, v_kas, v_inc, kme_s, v_pf, v_kpf1, v_kpf2, v_po, v_kpo1, v_kpo2, v_kpo3, v_kpo4, v_ia, v_kia1, v_kia2, v_kia3, v_io, v_kio1, v_kio2, v_kio3, v_kio4, v_kio5, v_s0, v_sq, sqk_l, sqk_r, v_if, kif_t, kif_f, v_no, nok_r, v_bk, bkk_l, bkk_r, v_rtI, krI_s, v_rtL, krL_s, v_rv, v_sw, ksw_I, ksw2_s, v_fn, fnl_t, fnk_r, fnr_t, nr_I, nr_L, nr_n, nr_b, nr_0, nr_1, nr_R, v_cl, v_cs, clk_t, m2_I, m1_I, v_si, v_sr, sik_t, v_sl, slk_t, v_oinc, inck_s, se_0, se_n, se_s, v_nl, v_nl0, nlo_I, nlo_R, nlo_U, nlo_n, v_ii, v_jj, v_ji, v_jc, v_iz, v_iu, v_i2l, c0_eq, c0_ne, c0_lt, c0_ge, c0_gt, c0_le, c2_eq, c2_ne, c2_lt, c2_ge, c2_gt, c2_le, en_n, en_I, en_R, en_L, List.getElem?_cons_zero, List.getElem?_cons_succ, List.getElem?_nil, List.length_cons, List.length_nil, List.take_succ_cons, List.take_zero, List.cons_append, List.nil_append, nI_lit, nN_lit, nI_eq, nI_ltI, nI_leI, nI_add, pk_mul, pk_sub, nI_eN, nN_eI, nN_ltI, nN_leI, nI_ltN, nI_leN, nN_nN, nN_leN, bI_e0, bI_e1, bt_shr, nI_sub_lt, ntT, ntF, nlT, nlF, neT, neF, hb, e3], by rw [e1, show j - (cnt (bt x) k + 1) = m by omega], rfl, by omega, fun i hi => ?_⟩
        by_cases e9 : i = k
        · rw [e9, hb, decide_eq_false d]; rfl
        · exact i4 i (by omega)
  · rintro e μ' ⟨rfl, rfl, i3, i4⟩
    subst hc1
    simp (disch := first | omega | assumption | exact Or.inl rfl | exact Or.inr rfl | exact bI_ok _) [v_bd, mp_s, v_en, v_k, v_li, li_s, v_ll, ll_s, v_lr, lr_s, v_eu, v_ku, v_eb, v_kb1, v_kb2, v_ec, kc_t, kc_f, v_bz, kz_I, v_b2, v_k21, k22_I, v_and, kan_t, kan_f, v_or, kor_t, kor_f, v_not, v_knt, v_a0, v_a1, v_ka1, v_ka2, v_ek, v_kk, kkr_s, v_sk, v_ks, ksr_s, v_pop, kpop_I, kase_s, v_as, v_kas, v_inc, kme_s, v_pf, v_kpf1, v_kpf2, v_po, v_kpo1, v_kpo2, v_kpo3, v_kpo4, v_ia, v_kia1, v_kia2, v_kia3, v_io, v_kio1, v_kio2, v_kio3, v_kio4, v_kio5, v_s0, v_sq, sqk_l, sqk_r, v_if, kif_t, kif_f, v_no, nok_r, v_bk, bkk_l, bkk_r, v_rtI, krI_s, v_rtL, krL_s, v_rv, v_sw, ksw_I, ksw2_s, v_fn, fnl_t, fnk_r, fnr_t, nr_I, nr_L, nr_n, nr_b, nr_0, nr_1, nr_R, v_cl, v_cs, clk_t, m2_I, m1_I, v_si, v_sr, sik_t, v_sl, slk_t, v_oinc, inck_s, se_0, se_n, se_s, v_nl, v_nl0, nlo_I, nlo_R, nlo_U, nlo_n, v_ii, v_jj, v_ji, v_jc, v_iz, v_iu, v_i2l, c0_eq, c0_ne, c0_lt, c0_ge, c0_gt, c0_le, c2_eq, c2_ne, c2_lt, c2_ge, c2_gt, c2_le, en_n, en_I, en_R, en_L, List.getElem?_cons_zero, List.getElem?_cons_succ, List.getElem?_nil, List.length_cons, List.length_nil, List.take_succ_cons, List.take_zero, List.cons_append, List.nil_append, nI_lit, nN_lit, nI_eq, nI_ltI, nI_leI, nI_add, pk_mul, pk_sub, nI_eN, nN_eI, nN_ltI, nN_leI, nI_ltN, nI_leN, nN_nN, nN_leN, bI_e0, bI_e1, bt_shr, nI_sub_lt, ntT, ntF, nlT, nlF, neT, neF, ]
/-- as the class answers -/
def svX (p : Nat → Bool) (i : Option Nat) : Int32 := if 2 < cnt p 8 then nN else match i with
  | none => nI (cnt p 8)
  | some j => oI (jth p j)
def sv3 : List (Option Nat) := [none, some 0, some 1]
/-- one and the same, for all sets of up to eight -/
theorem sv8 : ((List.range 9).all fun n => sv3.all fun i => [false, true].all fun b0 => [false, true].all fun b1 => [false, true].all fun b2 => [false, true].all fun b3 => [false, true].all fun b4 => [false, true].all fun b5 => [false, true].all fun b6 => [false, true].all fun b7 => decide (svR (msk (m8 b0 b1 b2 b3 b4 b5 b6 b7) n) n i = svX (msk (m8 b0 b1 b2 b3 b4 b5 b6 b7) n) i)) = true := by decide +kernel
