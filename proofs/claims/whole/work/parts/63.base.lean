/-! ranges; the reference's small methods -/
/-- from 0 on, below n -/
def rg (x : Int32) (n : Nat) : Bool := decide (0 ≤ x) && decide (x < nI n)
theorem rg_nI {j n : Nat} (hj : j < 2 ^ 31) (hn : n < 2 ^ 31) : rg (nI j) n = decide (j < n) := by
  unfold rg
  rw [decide_eq_true (nI_nn hj), Bool.true_and]
  exact decide_eq_decide.mpr (nI_ltI hj hn)
theorem rg_in {j n : Nat} (hj : j < n) (hn : n < 2 ^ 31) : rg (nI j) n = true := by rw [rg_nI (by omega) hn]; exact decide_eq_true hj
/-- an int is in the range, as a number, or it isn't -/
theorem rg_cases (x : Int32) {n : Nat} (hn : n < 2 ^ 31) : rg x n = false ∨ ∃ j : Nat, j < n ∧ x = nI j := by
  rcases pk_ix x hn with h | h | h
  · left
    unfold rg
    rw [decide_eq_false (fun h9 => absurd h (Int32.not_lt.mpr h9)), Bool.false_and]
  · left
    unfold rg
    rw [decide_eq_false (fun h9 => absurd h9 (Int32.not_lt.mpr h)), Bool.and_false]
  · exact Or.inr h
theorem f_within_n (x : Int32) (n : Nat) (μ : am_M) : f_X10_within [vI x, vI (nI n)] μ = some (some (vI (bI (rg x n))), μ) := f_within x (nI n) μ
theorem lg_ge (x y : Int64) : am_c0 .ge (lg_cmp x y) = decide (y ≤ x) := by
  show decide (0 ≤ lg_cmp x y) = _
  exact decide_eq_decide.mpr (lg_cmp_ge x y)
theorem lg_le (x y : Int64) : am_c0 .le (lg_cmp x y) = decide (x ≤ y) := by
  show decide (lg_cmp x y ≤ 0) = _
  refine decide_eq_decide.mpr ?_
  unfold lg_cmp
  by_cases h1 : x > y
  · rw [if_pos h1]
    exact ⟨fun h => absurd h (by decide), fun h => absurd h1 (Int64.not_lt.mpr h)⟩
  · rw [if_neg h1]
    have h2 : x ≤ y := Int64.not_lt.mp h1
    by_cases h3 : x = y
    · rw [if_pos h3]
      exact ⟨fun _ => h2, fun _ => by decide⟩
    · rw [if_neg h3]
      exact ⟨fun _ => h2, fun _ => by decide⟩
theorem lg_le0 (x y : Int64) : (lg_cmp x y ≤ 0) ↔ x ≤ y := by
  have h := lg_le x y
  exact decide_eq_decide.mp h
theorem f_in (a b c : Int64) (μ : am_M) : f_X11_in [vL a, vL b, vL c] μ = some (some (vI (bI (decide (b ≤ a) && decide (a ≤ c)))), μ) := by
  unfold f_X11_in g_X11_in
  by_cases k1 : b ≤ a <;> by_cases k2 : a ≤ c <;> simp [am_fn, am_en, am_bd_s, am_bd_n, e_n, e_u, e_b, e_c, e_k, b_z, b_2, b_and, b_or, b_not, a_0, a_1, s_k, s_pop, s_as, s_inc, s_pf, s_po, s_ia, s_io, s_cy, s_0, s_sq, s_if, s_no, s_bk, s_rt_I, s_rt_L, s_rt_A, s_rv, s_sw, o_k, o_li, o_ll, o_lr, o_ii, o_iz, o_jj, o_jz, o_ji, o_jc, o_iu, o_i2l, o_si, o_sr, o_sl, o_inc, am_cl, am_cs, am_m1, am_m2, am_c1, am_c0, am_c2, am_se, am_nl, am_nr, am_wh, List.getElem?_cons_zero, List.getElem?_cons_succ, List.length_cons, List.length_nil, Option.map_some, Option.map_none, List.reverse_cons, List.set_cons_succ, List.set_cons_zero, List.take_succ_cons, List.take_zero, List.cons_append, List.nil_append, lg_cmp_ge, lg_le0, bI, k1, k2]
theorem in32 (x : Int32) {n : Nat} (hn : n < 2 ^ 30) : (decide ((0 : Int64) ≤ x.toInt64) && decide (x.toInt64 ≤ lN n)) = rg x (n + 1) := by
  unfold rg
  have h1 : ((0 : Int64) ≤ x.toInt64) ↔ (0 : Int32) ≤ x := by
    rw [Int64.le_iff_toInt_le, Int32.le_iff_toInt_le, Int32.toInt_toInt64]
    rfl
  have h2 : (x.toInt64 ≤ lN n) ↔ x < nI (n + 1) := by
    rw [Int64.le_iff_toInt_le, Int32.lt_iff_toInt_lt, Int32.toInt_toInt64, nI_toInt (by omega), pk_lT (by omega)]
    omega
  rw [decide_eq_decide.mpr h1, decide_eq_decide.mpr h2]
theorem f_in32 (x : Int32) {n : Nat} (hn : n < 2 ^ 30) (μ : am_M) : f_X11_in [vL x.toInt64, vL 0, vL (lN n)] μ = some (some (vI (bI (rg x (n + 1)))), μ) := by rw [f_in, in32 x hn]
theorem lN_lit (n : Nat) : (OfNat.ofNat n : Int64) = lN (OfNat.ofNat n) := rfl
theorem f_isText (x : Int32) (μ : am_M) : f_X11_isText [vI x] μ = some (some (vI (bI (rg x 3))), μ) := by
  unfold f_X11_isText g_X11_isText
  have h := f_in32 x (n := 2) (by decide) μ
  have h2 : f_X11_in [vL x.toInt64, vL 0, vL 2] μ = some (some (vI (bI (rg x 3))), μ) := h
  cases hb : rg x 3 <;> simp [am_fn, am_en, am_bd_s, am_bd_n, e_n, e_u, e_b, e_c, e_k, b_z, b_2, b_and, b_or, b_not, a_0, a_1, s_k, s_pop, s_as, s_inc, s_pf, s_po, s_ia, s_io, s_cy, s_0, s_sq, s_if, s_no, s_bk, s_rt_I, s_rt_L, s_rt_A, s_rv, s_sw, o_k, o_li, o_ll, o_lr, o_ii, o_iz, o_jj, o_jz, o_ji, o_jc, o_iu, o_i2l, o_si, o_sr, o_sl, o_inc, am_cl, am_cs, am_m1, am_m2, am_c1, am_c0, am_c2, am_se, am_nl, am_nr, am_wh, List.getElem?_cons_zero, List.getElem?_cons_succ, List.length_cons, List.length_nil, Option.map_some, Option.map_none, List.reverse_cons, List.set_cons_succ, List.set_cons_zero, List.take_succ_cons, List.take_zero, List.cons_append, List.nil_append, h2, hb, bI]
theorem f_isSheet (x : Int32) (μ : am_M) : f_X11_isSheet [vI x] μ = some (some (vI (bI (rg x 4))), μ) := by
  unfold f_X11_isSheet g_X11_isSheet
  have h2 : f_X11_in [vL x.toInt64, vL 0, vL 3] μ = some (some (vI (bI (rg x 4))), μ) := f_in32 x (n := 3) (by decide) μ
  cases hb : rg x 4 <;> simp [am_fn, am_en, am_bd_s, am_bd_n, e_n, e_u, e_b, e_c, e_k, b_z, b_2, b_and, b_or, b_not, a_0, a_1, s_k, s_pop, s_as, s_inc, s_pf, s_po, s_ia, s_io, s_cy, s_0, s_sq, s_if, s_no, s_bk, s_rt_I, s_rt_L, s_rt_A, s_rv, s_sw, o_k, o_li, o_ll, o_lr, o_ii, o_iz, o_jj, o_jz, o_ji, o_jc, o_iu, o_i2l, o_si, o_sr, o_sl, o_inc, am_cl, am_cs, am_m1, am_m2, am_c1, am_c0, am_c2, am_se, am_nl, am_nr, am_wh, List.getElem?_cons_zero, List.getElem?_cons_succ, List.length_cons, List.length_nil, Option.map_some, Option.map_none, List.reverse_cons, List.set_cons_succ, List.set_cons_zero, List.take_succ_cons, List.take_zero, List.cons_append, List.nil_append, h2, hb, bI]
theorem f_isHour (x : Int32) (μ : am_M) : f_X11_isHour [vI x] μ = some (some (vI (bI (rg x 20))), μ) := by
  unfold f_X11_isHour g_X11_isHour
  have h2 : f_X11_in [vL x.toInt64, vL 0, vL 19] μ = some (some (vI (bI (rg x 20))), μ) := f_in32 x (n := 19) (by decide) μ
  cases hb : rg x 20 <;> simp [am_fn, am_en, am_bd_s, am_bd_n, e_n, e_u, e_b, e_c, e_k, b_z, b_2, b_and, b_or, b_not, a_0, a_1, s_k, s_pop, s_as, s_inc, s_pf, s_po, s_ia, s_io, s_cy, s_0, s_sq, s_if, s_no, s_bk, s_rt_I, s_rt_L, s_rt_A, s_rv, s_sw, o_k, o_li, o_ll, o_lr, o_ii, o_iz, o_jj, o_jz, o_ji, o_jc, o_iu, o_i2l, o_si, o_sr, o_sl, o_inc, am_cl, am_cs, am_m1, am_m2, am_c1, am_c0, am_c2, am_se, am_nl, am_nr, am_wh, List.getElem?_cons_zero, List.getElem?_cons_succ, List.length_cons, List.length_nil, Option.map_some, Option.map_none, List.reverse_cons, List.set_cons_succ, List.set_cons_zero, List.take_succ_cons, List.take_zero, List.cons_append, List.nil_append, h2, hb, bI]
theorem f_isTwo (x : Int32) (μ : am_M) : f_X11_isTwo [vI x] μ = some (some (vI (bI (rg x 2))), μ) := by
  unfold f_X11_isTwo g_X11_isTwo
  have h2 : f_X11_in [vL x.toInt64, vL 0, vL 1] μ = some (some (vI (bI (rg x 2))), μ) := f_in32 x (n := 1) (by decide) μ
  cases hb : rg x 2 <;> simp [am_fn, am_en, am_bd_s, am_bd_n, e_n, e_u, e_b, e_c, e_k, b_z, b_2, b_and, b_or, b_not, a_0, a_1, s_k, s_pop, s_as, s_inc, s_pf, s_po, s_ia, s_io, s_cy, s_0, s_sq, s_if, s_no, s_bk, s_rt_I, s_rt_L, s_rt_A, s_rv, s_sw, o_k, o_li, o_ll, o_lr, o_ii, o_iz, o_jj, o_jz, o_ji, o_jc, o_iu, o_i2l, o_si, o_sr, o_sl, o_inc, am_cl, am_cs, am_m1, am_m2, am_c1, am_c0, am_c2, am_se, am_nl, am_nr, am_wh, List.getElem?_cons_zero, List.getElem?_cons_succ, List.length_cons, List.length_nil, Option.map_some, Option.map_none, List.reverse_cons, List.set_cons_succ, List.set_cons_zero, List.take_succ_cons, List.take_zero, List.cons_append, List.nil_append, h2, hb, bI]
theorem f_greater (a b : Int32) (μ : am_M) : f_X11_greater [vI a, vI b] μ = some (some (vI (if b < a then a else b)), μ) := by
  unfold f_X11_greater g_X11_greater
  by_cases h : b < a <;> simp [am_fn, am_en, am_bd_s, am_bd_n, e_n, e_u, e_b, e_c, e_k, b_z, b_2, b_and, b_or, b_not, a_0, a_1, s_k, s_pop, s_as, s_inc, s_pf, s_po, s_ia, s_io, s_cy, s_0, s_sq, s_if, s_no, s_bk, s_rt_I, s_rt_L, s_rt_A, s_rv, s_sw, o_k, o_li, o_ll, o_lr, o_ii, o_iz, o_jj, o_jz, o_ji, o_jc, o_iu, o_i2l, o_si, o_sr, o_sl, o_inc, am_cl, am_cs, am_m1, am_m2, am_c1, am_c0, am_c2, am_se, am_nl, am_nr, am_wh, List.getElem?_cons_zero, List.getElem?_cons_succ, List.length_cons, List.length_nil, Option.map_some, Option.map_none, List.reverse_cons, List.set_cons_succ, List.set_cons_zero, List.take_succ_cons, List.take_zero, List.cons_append, List.nil_append, h]
theorem f_lesser (a b : Int32) (μ : am_M) : f_X11_lesser [vI a, vI b] μ = some (some (vI (if a < b then a else b)), μ) := by
  unfold f_X11_lesser g_X11_lesser
  by_cases h : a < b <;> simp [am_fn, am_en, am_bd_s, am_bd_n, e_n, e_u, e_b, e_c, e_k, b_z, b_2, b_and, b_or, b_not, a_0, a_1, s_k, s_pop, s_as, s_inc, s_pf, s_po, s_ia, s_io, s_cy, s_0, s_sq, s_if, s_no, s_bk, s_rt_I, s_rt_L, s_rt_A, s_rv, s_sw, o_k, o_li, o_ll, o_lr, o_ii, o_iz, o_jj, o_jz, o_ji, o_jc, o_iu, o_i2l, o_si, o_sr, o_sl, o_inc, am_cl, am_cs, am_m1, am_m2, am_c1, am_c0, am_c2, am_se, am_nl, am_nr, am_wh, List.getElem?_cons_zero, List.getElem?_cons_succ, List.length_cons, List.length_nil, Option.map_some, Option.map_none, List.reverse_cons, List.set_cons_succ, List.set_cons_zero, List.take_succ_cons, List.take_zero, List.cons_append, List.nil_append, h]
theorem f_finds (x : Int32) (μ : am_M) : f_X11_finds [vR 0, vI x] μ = some (some (vI (-10 - x)), am_up μ 0 4 x) := by
  unfold f_X11_finds g_X11_finds
  simp [am_fn, am_en, am_bd_s, am_bd_n, e_n, e_u, e_b, e_c, e_k, b_z, b_2, b_and, b_or, b_not, a_0, a_1, s_k, s_pop, s_as, s_inc, s_pf, s_po, s_ia, s_io, s_cy, s_0, s_sq, s_if, s_no, s_bk, s_rt_I, s_rt_L, s_rt_A, s_rv, s_sw, o_k, o_li, o_ll, o_lr, o_ii, o_iz, o_jj, o_jz, o_ji, o_jc, o_iu, o_i2l, o_si, o_sr, o_sl, o_inc, am_cl, am_cs, am_m1, am_m2, am_c1, am_c0, am_c2, am_se, am_nl, am_nr, am_wh, List.getElem?_cons_zero, List.getElem?_cons_succ, List.length_cons, List.length_nil, Option.map_some, Option.map_none, List.reverse_cons, List.set_cons_succ, List.set_cons_zero, List.take_succ_cons, List.take_zero, List.cons_append, List.nil_append, pv_M_0_4]
theorem f_finding (x : Int32) (μ : am_M) : f_X10_finding [vR 0, vI x] μ = some (some (vI (-10 - x)), am_up μ 0 15 x) := by
  unfold f_X10_finding g_X10_finding
  simp [am_fn, am_en, am_bd_s, am_bd_n, e_n, e_u, e_b, e_c, e_k, b_z, b_2, b_and, b_or, b_not, a_0, a_1, s_k, s_pop, s_as, s_inc, s_pf, s_po, s_ia, s_io, s_cy, s_0, s_sq, s_if, s_no, s_bk, s_rt_I, s_rt_L, s_rt_A, s_rv, s_sw, o_k, o_li, o_ll, o_lr, o_ii, o_iz, o_jj, o_jz, o_ji, o_jc, o_iu, o_i2l, o_si, o_sr, o_sl, o_inc, am_cl, am_cs, am_m1, am_m2, am_c1, am_c0, am_c2, am_se, am_nl, am_nr, am_wh, List.getElem?_cons_zero, List.getElem?_cons_succ, List.length_cons, List.length_nil, Option.map_some, Option.map_none, List.reverse_cons, List.set_cons_succ, List.set_cons_zero, List.take_succ_cons, List.take_zero, List.cons_append, List.nil_append, pv_X_0_15]
/-- what a form keeps of an int -/
def cutI (form x : Int32) : Int32 := if form = 0 then x.toInt8.toInt32 else if form = 1 then x.toInt16.toInt32 else x
theorem f_cut (form x : Int32) (μ : am_M) : f_X11_cut [vI form, vI x] μ = some (some (vI (cutI form x)), μ) := by
  unfold f_X11_cut g_X11_cut cutI
  by_cases h : form = 0
  · simp [am_fn, am_en, am_bd_s, am_bd_n, e_n, e_u, e_b, e_c, e_k, b_z, b_2, b_and, b_or, b_not, a_0, a_1, s_k, s_pop, s_as, s_inc, s_pf, s_po, s_ia, s_io, s_cy, s_0, s_sq, s_if, s_no, s_bk, s_rt_I, s_rt_L, s_rt_A, s_rv, s_sw, o_k, o_li, o_ll, o_lr, o_ii, o_iz, o_jj, o_jz, o_ji, o_jc, o_iu, o_i2l, o_si, o_sr, o_sl, o_inc, am_cl, am_cs, am_m1, am_m2, am_c1, am_c0, am_c2, am_se, am_nl, am_nr, am_wh, List.getElem?_cons_zero, List.getElem?_cons_succ, List.length_cons, List.length_nil, Option.map_some, Option.map_none, List.reverse_cons, List.set_cons_succ, List.set_cons_zero, List.take_succ_cons, List.take_zero, List.cons_append, List.nil_append, h]
  · by_cases h1 : form = 1 <;> simp [am_fn, am_en, am_bd_s, am_bd_n, e_n, e_u, e_b, e_c, e_k, b_z, b_2, b_and, b_or, b_not, a_0, a_1, s_k, s_pop, s_as, s_inc, s_pf, s_po, s_ia, s_io, s_cy, s_0, s_sq, s_if, s_no, s_bk, s_rt_I, s_rt_L, s_rt_A, s_rv, s_sw, o_k, o_li, o_ll, o_lr, o_ii, o_iz, o_jj, o_jz, o_ji, o_jc, o_iu, o_i2l, o_si, o_sr, o_sl, o_inc, am_cl, am_cs, am_m1, am_m2, am_c1, am_c0, am_c2, am_se, am_nl, am_nr, am_wh, List.getElem?_cons_zero, List.getElem?_cons_succ, List.length_cons, List.length_nil, Option.map_some, Option.map_none, List.reverse_cons, List.set_cons_succ, List.set_cons_zero, List.take_succ_cons, List.take_zero, List.cons_append, List.nil_append, h, h1]
