/-! risk: sums over sets -/
def sumN (f : Nat → Nat) (n : Nat) : Nat := fd (fun x a => a + f x) n 0
theorem sumN_s (f : Nat → Nat) (n : Nat) : sumN f (n + 1) = sumN f n + f n := rfl
theorem sumN_congr {f g : Nat → Nat} {n : Nat} (h : ∀ i, i < n → f i = g i) : sumN f n = sumN g n := fd_congr (fun i a hi => by rw [h i hi]) _
theorem sumN_add (f : Nat → Nat) (m : Nat) : ∀ n, sumN f (m + n) = sumN f m + sumN (fun i => f (m + i)) n
  | 0 => rfl
  | n + 1 => by
    show sumN f (m + n) + f (m + n) = sumN f m + (sumN (fun i => f (m + i)) n + f (m + n))
    rw [sumN_add f m n]
    omega
theorem sumN_mul (f : Nat → Nat) (k : Nat) : ∀ n, sumN (fun i => f i * k) n = sumN f n * k
  | 0 => by show 0 = 0 * k; omega
  | n + 1 => by rw [sumN_s, sumN_s, sumN_mul f k n, Nat.add_mul]
theorem sumN_plus (f g : Nat → Nat) : ∀ n, sumN (fun i => f i + g i) n = sumN f n + sumN g n
  | 0 => rfl
  | n + 1 => by rw [sumN_s, sumN_s, sumN_s, sumN_plus f g n]; omega
theorem sumN_0 : ∀ n, sumN (fun _ => 0) n = 0
  | 0 => rfl
  | n + 1 => by rw [sumN_s, sumN_0 n]
/-- the weight of a set of events that are gone -/
def wt (c : Nat) (s : Nat → Bool) (n : Nat) : Nat := fd (fun e a => a * (if s e = true then 16 - c else c)) n 1
theorem wt_s (c : Nat) (s : Nat → Bool) (n : Nat) : wt c s (n + 1) = wt c s n * (if s n = true then 16 - c else c) := rfl
theorem wt_congr {c : Nat} {s r : Nat → Bool} {n : Nat} (h : ∀ i, i < n → s i = r i) : wt c s n = wt c r n := fd_congr (fun i a hi => by rw [h i hi]) _
theorem tb_lo {n x e : Nat} (he : e < n) : (2 ^ n + x).testBit e = x.testBit e := Nat.testBit_two_pow_add_gt he x
theorem tb_hi {n x : Nat} (hx : x < 2 ^ n) : (2 ^ n + x).testBit n = true := by rw [Nat.testBit_two_pow_add_eq, Nat.testBit_lt_two_pow hx]; rfl
theorem sum_half (f : Nat → Nat) (n : Nat) : sumN f (2 ^ (n + 1)) = sumN f (2 ^ n) + sumN (fun i => f (2 ^ n + i)) (2 ^ n) := by
  rw [Nat.pow_succ, Nat.mul_comm, Nat.two_mul, sumN_add]
theorem wt_all {c : Nat} (hc : c ≤ 16) : ∀ n, sumN (fun x => wt c x.testBit n) (2 ^ n) = 16 ^ n
  | 0 => rfl
  | n + 1 => by
    rw [sum_half]
    have e1 : sumN (fun x => wt c x.testBit (n + 1)) (2 ^ n) = sumN (fun x => wt c x.testBit n) (2 ^ n) * c := by
      rw [← sumN_mul]
      refine sumN_congr (fun i hi => ?_)
      rw [wt_s, Nat.testBit_lt_two_pow hi]
      simp
    have e2 : sumN (fun x => wt c (2 ^ n + x).testBit (n + 1)) (2 ^ n) = sumN (fun x => wt c x.testBit n) (2 ^ n) * (16 - c) := by
      rw [← sumN_mul]
      refine sumN_congr (fun i hi => ?_)
      rw [wt_s, tb_hi hi, if_pos rfl, wt_congr (fun e he => tb_lo he)]
    rw [e1, e2, wt_all hc n, ← Nat.mul_add, show c + (16 - c) = 16 by omega, Nat.pow_succ]
/-- all of p are gone -/
theorem sfe_s (p : Nat → Bool) (n : Nat) (g : Nat → Bool) : sfe p (n + 1) g = (sfe p n g && !(p n && !(g n))) := by
  unfold sfe
  rw [anyB_s]
  cases anyB (fun e => p e && !(g e)) n <;> cases (p n && !(g n)) <;> rfl
def wq (c : Nat) (p : Nat → Bool) (n : Nat) : Nat := fd (fun e a => a * (if p e = true then 16 - c else 16)) n 1
theorem sfe_congr2 {p : Nat → Bool} {n : Nat} {g r : Nat → Bool} (h : ∀ i, i < n → g i = r i) : sfe p n g = sfe p n r := by
  unfold sfe
  rw [anyB_congr (fun i hi => by rw [h i hi])]
theorem wt_safe {c : Nat} (hc : c ≤ 16) (p : Nat → Bool) : ∀ n, sumN (fun x => if sfe p n x.testBit = true then wt c x.testBit n else 0) (2 ^ n) = wq c p n
  | 0 => rfl
  | n + 1 => by
    rw [sum_half]
    have e1 : sumN (fun x => if sfe p (n + 1) x.testBit = true then wt c x.testBit (n + 1) else 0) (2 ^ n) = if p n = true then 0 else wq c p n * c := by
      by_cases hp : p n = true
      · rw [if_pos hp]
        refine (sumN_congr (g := fun _ => 0) (fun i hi => ?_)).trans (sumN_0 _)
        rw [sfe_s, Nat.testBit_lt_two_pow hi, hp]
        simp
      · rw [if_neg hp, ← wt_safe hc p n, ← sumN_mul]
        refine sumN_congr (fun i hi => ?_)
        have hp2 : p n = false := by simpa using hp
        rw [sfe_s, wt_s, Nat.testBit_lt_two_pow hi, hp2]
        by_cases hs : sfe p n i.testBit = true
        · simp [hs]
        · simp [hs]
    have e2 : sumN (fun x => if sfe p (n + 1) (2 ^ n + x).testBit = true then wt c (2 ^ n + x).testBit (n + 1) else 0) (2 ^ n) = wq c p n * (16 - c) := by
      rw [← wt_safe hc p n, ← sumN_mul]
      refine sumN_congr (fun i hi => ?_)
      rw [sfe_s, wt_s, tb_hi hi, sfe_congr2 (r := i.testBit) (fun e he => tb_lo he), wt_congr (r := i.testBit) (fun e he => tb_lo he)]
      by_cases hs : sfe p n i.testBit = true
      · simp [hs]
      · simp [hs]
    rw [e1, e2]
    show _ = wq c p n * (if p n = true then 16 - c else 16)
    by_cases hp : p n = true
    · rw [if_pos hp, if_pos hp]; omega
    · rw [if_neg hp, if_neg hp, ← Nat.mul_add, show c + (16 - c) = 16 by omega]
/-- the reference's sum -/
def rkS (c : Nat) (p : Nat → Bool) (n m : Nat) : Nat := sumN (fun x => if sfe p n x.testBit = true then 0 else wt c x.testBit n) m
theorem rk_sum {c : Nat} (hc : c ≤ 16) (p : Nat → Bool) (n : Nat) : rkS c p n (2 ^ n) + wq c p n = 16 ^ n := by
  rw [← wt_all hc n, ← wt_safe hc p n]
  unfold rkS
  rw [← sumN_plus]
  refine sumN_congr (fun i hi => ?_)
  by_cases hs : sfe p n i.testBit = true
  · simp [hs]
  · simp [hs]
theorem wq_cnt {c : Nat} (p : Nat → Bool) : ∀ n, wq c p n = (16 - c) ^ cnt p n * 16 ^ (n - cnt p n)
  | 0 => rfl
  | n + 1 => by
    have lc := cnt_le p n
    show wq c p n * (if p n = true then 16 - c else 16) = _
    rw [wq_cnt p n, cnt_s]
    by_cases hp : p n = true
    · rw [if_pos hp, if_pos hp, show n + 1 - (cnt p n + 1) = n - cnt p n by omega, Nat.pow_succ]
      simp only [Nat.mul_comm, Nat.mul_left_comm, Nat.mul_assoc]
    · rw [if_neg hp, if_neg hp, show n + 1 - cnt p n = (n - cnt p n) + 1 by omega, Nat.pow_succ]
      simp only [Nat.mul_comm, Nat.mul_left_comm, Nat.mul_assoc]
/-- above and below, by the class -/
def rkA (c m : Nat) : Nat := 16 ^ m - (16 - c) ^ m
theorem rk_eq {c : Nat} (hc : c ≤ 16) (p : Nat → Bool) (n : Nat) : rkS c p n (2 ^ n) = rkA c (cnt p n) * 16 ^ (n - cnt p n) ∧ 16 ^ n = 16 ^ cnt p n * 16 ^ (n - cnt p n) := by
  have lc := cnt_le p n
  have h1 := rk_sum hc p n
  have h2 : 16 ^ n = 16 ^ cnt p n * 16 ^ (n - cnt p n) := by rw [← Nat.pow_add, show cnt p n + (n - cnt p n) = n by omega]
  refine ⟨?_, h2⟩
  unfold rkA
  rw [Nat.sub_mul, ← wq_cnt p n, ← h2]
  omega
theorem gcd_sc (a b k : Nat) (hk : 0 < k) : a * k / Nat.gcd (a * k) (b * k) = a / Nat.gcd a b ∧ b * k / Nat.gcd (a * k) (b * k) = b / Nat.gcd a b := by
  rw [Nat.gcd_mul_right]
  exact ⟨Nat.mul_div_mul_right _ _ hk, Nat.mul_div_mul_right _ _ hk⟩
def vRisk (c m w : Nat) : Int64 := if w = 0 then lN (rkA c m / Nat.gcd (rkA c m) (16 ^ m)) else lN (16 ^ m / Nat.gcd (rkA c m) (16 ^ m))
/-! longs -/
theorem v_jz (f : Int64 → Int64 → Int64) (x : Int64) {d : Nat} (h0 : 0 < d) (hd : d < 2 ^ 63) (μ : am_M) : o_jz f (vL x) (vL (lN d)) μ = some (vL (f x (lN d))) := by
  show (if lN d = 0 then none else some (vL (f x (lN d)))) = _
  rw [if_neg (fun h => by
    have h1 : lN d = lN 0 := h
    rw [pk_lEQ hd (by omega)] at h1
    omega)]
theorem cm_0 {b : Nat} (hb : b < 2 ^ 63) : (lg_cmp (lN b) (lN 0) = nI 0) = (b = 0) := by
  refine propext ((lg_cmp_eq _ _).trans ?_)
  rw [pk_lEQ hb (by omega)]
theorem cm_g {b d : Nat} (hb : b < 2 ^ 63) (hd : d < 2 ^ 63) : (nI 0 < lg_cmp (lN b) (lN d)) = (d < b) := by
  refine propext ((lg_cmp_gt _ _).trans ?_)
  rw [pk_lLT hd hb]
/-- the reference's fraction -/
theorem part_lp {c1 : am_B} {b1 : am_T} {x y : Int64} {w : Int32} {μ : am_M} (hc1 : (b_z .ne (e_b o_lcmp (e_ll 7) (e_j 0))) = c1) (hb1 : (s_bk (s_sq (s_as (o_sl 11 9) (e_b o_lrem (e_ll 5) (e_ll 7))) (s_sq (s_as (o_sl 11 5) (e_ll 7)) (s_as (o_sl 11 7) (e_ll 9))))) = b1) : ∀ (n a b : Nat), b ≤ n → a < 2 ^ 63 → b < 2 ^ 63 → s_lp c1 b1 [vL x, vU, vL y, vU, vI w, vL (lN a), vU, vL (lN b), vU] μ = some (.inl ([vL x, vU, vL y, vU, vI w, vL (lN (Nat.gcd a b)), vU, vL (lN 0), vU], μ))
  | n, a, b, hn, ha, hb => by
    by_cases h0 : b = 0
    · subst h0
      rw [Nat.gcd_zero_right]
      apply bf_c
      subst hc1
      simp (disch := first | omega | assumption | exact Or.inl rfl | exact Or.inr rfl | exact bI_ok _) [v_bd, mp_s, v_en, v_k, v_li, li_s, v_ll, ll_s, v_lr, lr_s, v_eu, v_ku, v_eb, v_kb1, v_kb2, v_ec, kc_t, kc_f, v_bz, kz_I, v_b2, v_k21, k22_I, v_and, kan_t, kan_f, v_or, kor_t, kor_f, v_not, v_knt, v_a0, v_a1, v_ka1, v_ka2, v_ek, v_kk, kkr_s, v_sk, v_ks, ksr_s, v_pop, kpop_I, kase_s, v_as, v_kas, v_inc, kme_s, v_pf, v_kpf1, v_kpf2, v_po, v_kpo1, v_kpo2, v_kpo3, v_kpo4, v_ia, v_kia1, v_kia2, v_kia3, v_io, v_kio1, v_kio2, v_kio3, v_kio4, v_kio5, v_s0, v_sq, sqk_l, sqk_r, v_if, kif_t, kif_f, v_no, nok_r, v_bk, bkk_l, bkk_r, v_rtI, krI_s, v_rtL, krL_s, v_rv, v_sw, ksw_I, ksw2_s, v_fn, fnl_t, fnk_r, fnr_t, nr_I, nr_L, nr_n, nr_b, nr_0, nr_1, nr_R, v_cl, v_cs, clk_t, m2_I, m1_I, v_si, v_sr, sik_t, v_sl, slk_t, v_oinc, inck_s, se_0, se_n, se_s, v_nl, v_nl0, nlo_I, nlo_R, nlo_U, nlo_n, v_ii, v_jj, v_ji, v_jc, v_iz, v_iu, v_i2l, c0_eq, c0_ne, c0_lt, c0_ge, c0_gt, c0_le, c2_eq, c2_ne, c2_lt, c2_ge, c2_gt, c2_le, en_n, en_I, en_R, en_L, List.getElem?_cons_zero, List.getElem?_cons_succ, List.getElem?_nil, List.length_cons, List.length_nil, List.take_succ_cons, List.take_zero, List.cons_append, List.nil_append, nI_lit, nN_lit, nI_eq, nI_ltI, nI_leI, nI_add, pk_mul, pk_sub, nI_eN, nN_eI, nN_ltI, nN_leI, nI_ltN, nI_leN, nN_nN, nN_leN, bI_e0, bI_e1, bt_shr, nI_sub_lt, ntT, ntF, nlT, nlF, neT, neF, lN_lit, cm_0]
    · have e1 : c1 [vL x, vU, vL y, vU, vI w, vL (lN a), vU, vL (lN b), vU] μ = some (true, μ) := by
        subst hc1
        simp (disch := first | omega | assumption | exact Or.inl rfl | exact Or.inr rfl | exact bI_ok _) [v_bd, mp_s, v_en, v_k, v_li, li_s, v_ll, ll_s, v_lr, lr_s, v_eu, v_ku, v_eb, v_kb1, v_kb2, v_ec, kc_t, kc_f, v_bz, kz_I, v_b2, v_k21, k22_I, v_and, kan_t, kan_f, v_or, kor_t, kor_f, v_not, v_knt, v_a0, v_a1, v_ka1, v_ka2, v_ek, v_kk, kkr_s, v_sk, v_ks, ksr_s, v_pop, kpop_I, kase_s, v_as, v_kas, v_inc, kme_s, v_pf, v_kpf1, v_kpf2, v_po, v_kpo1, v_kpo2, v_kpo3, v_kpo4, v_ia, v_kia1, v_kia2, v_kia3, v_io, v_kio1, v_kio2, v_kio3, v_kio4, v_kio5, v_s0, v_sq, sqk_l, sqk_r, v_if, kif_t, kif_f, v_no, nok_r, v_bk, bkk_l, bkk_r, v_rtI, krI_s, v_rtL, krL_s, v_rv, v_sw, ksw_I, ksw2_s, v_fn, fnl_t, fnk_r, fnr_t, nr_I, nr_L, nr_n, nr_b, nr_0, nr_1, nr_R, v_cl, v_cs, clk_t, m2_I, m1_I, v_si, v_sr, sik_t, v_sl, slk_t, v_oinc, inck_s, se_0, se_n, se_s, v_nl, v_nl0, nlo_I, nlo_R, nlo_U, nlo_n, v_ii, v_jj, v_ji, v_jc, v_iz, v_iu, v_i2l, c0_eq, c0_ne, c0_lt, c0_ge, c0_gt, c0_le, c2_eq, c2_ne, c2_lt, c2_ge, c2_gt, c2_le, en_n, en_I, en_R, en_L, List.getElem?_cons_zero, List.getElem?_cons_succ, List.getElem?_nil, List.length_cons, List.length_nil, List.take_succ_cons, List.take_zero, List.cons_append, List.nil_append, nI_lit, nN_lit, nI_eq, nI_ltI, nI_leI, nI_add, pk_mul, pk_sub, nI_eN, nN_eI, nN_ltI, nN_leI, nI_ltN, nI_leN, nN_nN, nN_leN, bI_e0, bI_e1, bt_shr, nI_sub_lt, ntT, ntF, nlT, nlF, neT, neF, lN_lit, cm_0]
      have lm := Nat.mod_lt a (Nat.pos_of_ne_zero h0)
      have e2 : b1 [vL x, vU, vL y, vU, vI w, vL (lN a), vU, vL (lN b), vU] μ = some (.inl ([vL x, vU, vL y, vU, vI w, vL (lN b), vU, vL (lN (a % b)), vU], μ)) := by
        subst hb1
        have e3 := pk_lRem (a := a) (b := b) ha (by omega) hb
        simp (disch := first | omega | assumption | exact Or.inl rfl | exact Or.inr rfl | exact bI_ok _) [v_bd, mp_s, v_en, v_k, v_li, li_s, v_ll, ll_s, v_lr, lr_s, v_eu, v_ku, v_eb, v_kb1, v_kb2, v_ec, kc_t, kc_f, v_bz, kz_I, v_b2, v_k21, k22_I, v_and, kan_t, kan_f, v_or, kor_t, kor_f, v_not, v_knt, v_a0, v_a1, v_ka1, v_ka2, v_ek, v_kk, kkr_s, v_sk, v_ks, ksr_s, v_pop, kpop_I, kase_s, v_as, v_kas, v_inc, kme_s, v_pf, v_kpf1, v_kpf2, v_po, v_kpo1, v_kpo2, v_kpo3, v_kpo4, v_ia, v_kia1, v_kia2, v_kia3, v_io, v_kio1, v_kio2, v_kio3, v_kio4, v_kio5, v_s0, v_sq, sqk_l, sqk_r, v_if, kif_t, kif_f, v_no, nok_r, v_bk, bkk_l, bkk_r, v_rtI, krI_s, v_rtL, krL_s, v_rv, v_sw, ksw_I, ksw2_s, v_fn, fnl_t, fnk_r, fnr_t, nr_I, nr_L, nr_n, nr_b, nr_0, nr_1, nr_R, v_cl, v_cs, clk_t, m2_I, m1_I, v_si, v_sr, sik_t, v_sl, slk_t, v_oinc, inck_s, se_0, se_n, se_s, v_nl, v_nl0, nlo_I, nlo_R, nlo_U, nlo_n, v_ii, v_jj, v_ji, v_jc, v_iz, v_iu, v_i2l, c0_eq, c0_ne, c0_lt, c0_ge, c0_gt, c0_le, c2_eq, c2_ne, c2_lt, c2_ge, c2_gt, c2_le, en_n, en_I, en_R, en_L, List.getElem?_cons_zero, List.getElem?_cons_succ, List.getElem?_nil, List.length_cons, List.length_nil, List.take_succ_cons, List.take_zero, List.cons_append, List.nil_append, nI_lit, nN_lit, nI_eq, nI_ltI, nI_leI, nI_add, pk_mul, pk_sub, nI_eN, nN_eI, nN_ltI, nN_leI, nI_ltN, nI_leN, nN_nN, nN_leN, bI_e0, bI_e1, bt_shr, nI_sub_lt, ntT, ntF, nlT, nlF, neT, neF, v_jz, e3]
      rw [bt_c e1, e2]
      show s_lp c1 b1 _ μ = _
      cases n with
      | zero => omega
      | succ n =>
        rw [part_lp hc1 hb1 n b (a % b) (by omega) hb (by omega), Nat.gcd_comm b, ← Nat.gcd_rec, Nat.gcd_comm]
theorem f_part {a b w : Nat} (ha : a < 2 ^ 63) (hb : b < 2 ^ 63) (h0 : 0 < b) (h2 : w < 2) (μ : am_M) : f_X11_part [vL (lN a), vL (lN b), vI (nI w)] μ = some (some (vL (if w = 0 then lN (a / Nat.gcd a b) else lN (b / Nat.gcd a b))), μ) := by
  unfold f_X11_part g_X11_part
  generalize hc1 : (b_z .ne (e_b o_lcmp (e_ll 7) (e_j 0))) = c1; generalize hb1 : (s_bk (s_sq (s_as (o_sl 11 9) (e_b o_lrem (e_ll 5) (e_ll 7))) (s_sq (s_as (o_sl 11 5) (e_ll 7)) (s_as (o_sl 11 7) (e_ll 9))))) = b1
  have k1 := part_lp (x := lN a) (y := lN b) (w := nI w) (μ := μ) hc1 hb1 b a b (Nat.le_refl _) ha hb
  have g0 : 0 < Nat.gcd a b := Nat.gcd_pos_of_pos_right _ h0
  have g1 : Nat.gcd a b < 2 ^ 63 := Nat.lt_of_le_of_lt (Nat.le_of_dvd h0 (Nat.gcd_dvd_right a b)) hb
  have e1 : w = 0 ∨ w = 1 := by omega
  rcases e1 with rfl | rfl
  · have e3 := pk_lDiv (a := a) (b := Nat.gcd a b) ha g0 g1
    simp (disch := first | omega | assumption | exact Or.inl rfl | exact Or.inr rfl | exact bI_ok _) [v_bd, mp_s, v_en, v_k, v_li, li_s, v_ll, ll_s, v_lr, lr_s, v_eu, v_ku, v_eb, v_kb1, v_kb2, v_ec, kc_t, kc_f, v_bz, kz_I, v_b2, v_k21, k22_I, v_and, kan_t, kan_f, v_or, kor_t, kor_f, v_not, v_knt, v_a0, v_a1, v_ka1, v_ka2, v_ek, v_kk, kkr_s, v_sk, v_ks, ksr_s, v_pop, kpop_I, kase_s, v_as, v_kas, v_inc, kme_s, v_pf, v_kpf1, v_kpf2, v_po, v_kpo1, v_kpo2, v_kpo3, v_kpo4, v_ia, v_kia1, v_kia2, v_kia3, v_io, v_kio1, v_kio2, v_kio3, v_kio4, v_kio5, v_s0, v_sq, sqk_l, sqk_r, v_if, kif_t, kif_f, v_no, nok_r, v_bk, bkk_l, bkk_r, v_rtI, krI_s, v_rtL, krL_s, v_rv, v_sw, ksw_I, ksw2_s, v_fn, fnl_t, fnk_r, fnr_t, nr_I, nr_L, nr_n, nr_b, nr_0, nr_1, nr_R, v_cl, v_cs, clk_t, m2_I, m1_I, v_si, v_sr, sik_t, v_sl, slk_t, v_oinc, inck_s, se_0, se_n, se_s, v_nl, v_nl0, nlo_I, nlo_R, nlo_U, nlo_n, v_ii, v_jj, v_ji, v_jc, v_iz, v_iu, v_i2l, c0_eq, c0_ne, c0_lt, c0_ge, c0_gt, c0_le, c2_eq, c2_ne, c2_lt, c2_ge, c2_gt, c2_le, en_n, en_I, en_R, en_L, List.getElem?_cons_zero, List.getElem?_cons_succ, List.getElem?_nil, List.length_cons, List.length_nil, List.take_succ_cons, List.take_zero, List.cons_append, List.nil_append, nI_lit, nN_lit, nI_eq, nI_ltI, nI_leI, nI_add, pk_mul, pk_sub, nI_eN, nN_eI, nN_ltI, nN_leI, nI_ltN, nI_leN, nN_nN, nN_leN, bI_e0, bI_e1, bt_shr, nI_sub_lt, ntT, ntF, nlT, nlF, neT, neF, k1, v_jz, e3]
  · have e3 := pk_lDiv (a := b) (b := Nat.gcd a b) hb g0 g1
    simp (disch := first | omega | assumption | exact Or.inl rfl | exact Or.inr rfl | exact bI_ok _) [v_bd, mp_s, v_en, v_k, v_li, li_s, v_ll, ll_s, v_lr, lr_s, v_eu, v_ku, v_eb, v_kb1, v_kb2, v_ec, kc_t, kc_f, v_bz, kz_I, v_b2, v_k21, k22_I, v_and, kan_t, kan_f, v_or, kor_t, kor_f, v_not, v_knt, v_a0, v_a1, v_ka1, v_ka2, v_ek, v_kk, kkr_s, v_sk, v_ks, ksr_s, v_pop, kpop_I, kase_s, v_as, v_kas, v_inc, kme_s, v_pf, v_kpf1, v_kpf2, v_po, v_kpo1, v_kpo2, v_kpo3, v_kpo4, v_ia, v_kia1, v_kia2, v_kia3, v_io, v_kio1, v_kio2, v_kio3, v_kio4, v_kio5, v_s0, v_sq, sqk_l, sqk_r, v_if, kif_t, kif_f, v_no, nok_r, v_bk, bkk_l, bkk_r, v_rtI, krI_s, v_rtL, krL_s, v_rv, v_sw, ksw_I, ksw2_s, v_fn, fnl_t, fnk_r, fnr_t, nr_I, nr_L, nr_n, nr_b, nr_0, nr_1, nr_R, v_cl, v_cs, clk_t, m2_I, m1_I, v_si, v_sr, sik_t, v_sl, slk_t, v_oinc, inck_s, se_0, se_n, se_s, v_nl, v_nl0, nlo_I, nlo_R, nlo_U, nlo_n, v_ii, v_jj, v_ji, v_jc, v_iz, v_iu, v_i2l, c0_eq, c0_ne, c0_lt, c0_ge, c0_gt, c0_le, c2_eq, c2_ne, c2_lt, c2_ge, c2_gt, c2_le, en_n, en_I, en_R, en_L, List.getElem?_cons_zero, List.getElem?_cons_succ, List.getElem?_nil, List.length_cons, List.length_nil, List.take_succ_cons, List.take_zero, List.cons_append, List.nil_append, nI_lit, nN_lit, nI_eq, nI_ltI, nI_leI, nI_add, pk_mul, pk_sub, nI_eN, nN_eI, nN_ltI, nN_leI, nI_ltN, nI_leN, nN_nN, nN_leN, bI_e0, bI_e1, bt_shr, nI_sub_lt, ntT, ntF, nlT, nlF, neT, neF, k1, v_jz, e3]
