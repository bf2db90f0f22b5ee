/-! EVALUATION: fields and rows of the two worlds, by program (mkeval.py) -/
theorem am_pv_f {Sh : List am_SC} {ci j r : Nat} {sl : List (Option Nat)} {x : Int32} {μ : am_M} (h : Sh[r]? = some (.inr (.inr (ci, sl)))) (hj : sl[j]? = some none) : am_pv Sh ci j false (vR r) (vI x) μ = some (am_up μ r j x) := by
  unfold am_pv
  simp [h, hj]
theorem am_pv_t {Sh : List am_SC} {ci j r : Nat} {sl : List (Option Nat)} {x : Int32} {μ : am_M} (h : Sh[r]? = some (.inr (.inr (ci, sl)))) (hj : sl[j]? = some none) (hx : x = 0 ∨ x = 1) : am_pv Sh ci j true (vR r) (vI x) μ = some (am_up μ r j x) := by
  unfold am_pv
  simp [h, hj, hx]
theorem am_lv_i {Sh : List am_SC} {r n i : Nat} {μ : am_M} (h : Sh[r]? = some (.inl n)) (hi : i < n) (hn : n < 4000) : am_lv Sh (vR r) (vI (nI i)) μ = some (vI (μ r i)) := by
  unfold am_lv
  simp only [h]
  rw [if_neg (nI_in hi (by omega)), nI_clamp (by omega)]
theorem am_wv_i {Sh : List am_SC} {r n i : Nat} {x : Int32} {μ : am_M} (h : Sh[r]? = some (.inl n)) (hi : i < n) (hn : n < 4000) : am_wv Sh (vR r) (vI (nI i)) (vI x) μ = some (am_up μ r i x) := by
  unfold am_wv
  simp only [h]
  rw [if_neg (nI_in hi (by omega)), nI_clamp (by omega)]
theorem am_up_eq (μ : am_M) (k j : Nat) (v : Int32) : am_up μ k j v k j = v := by simp [am_up, am_ur, upd]
theorem am_up_ne (μ : am_M) {k j a b : Nat} (v : Int32) (h : a ≠ k ∨ b ≠ j) : am_up μ k j v a b = μ a b := by
  unfold am_up am_ur upd
  by_cases ha : a = k
  · subst ha
    have hb : b ≠ j := by rcases h with h | h <;> simp_all
    simp [hb]
  · simp [ha]
theorem am_bd_s {α β : Type} (a : α) (μ : am_M) (k : α → am_M → Option β) : am_bd (some (a, μ)) k = k a μ := rfl
theorem am_bd_n {α β : Type} (k : α → am_M → Option β) : am_bd none k = none := rfl
theorem s_rt_I (a : am_X) (env : List AV) (μ : am_M) : s_rt .ireturn a env μ = am_bd (a env μ) fun v μ => match v with
  | .inl x => some (.inr (some (vI x), μ))
  | _ => none := by
  unfold s_rt
  congr 1
  funext v μ
  rcases v with x | x | x | x <;> simp [am_ri]
theorem s_rt_L (a : am_X) (env : List AV) (μ : am_M) : s_rt .lreturn a env μ = am_bd (a env μ) fun v μ => match v with
  | .inr (.inl x) => some (.inr (some (vL x), μ))
  | _ => none := by
  unfold s_rt
  congr 1
  funext v μ
  rcases v with x | x | x | x <;> simp [am_ri]
theorem s_rt_A (a : am_X) (env : List AV) (μ : am_M) : s_rt .areturn a env μ = am_bd (a env μ) fun v μ => match v with
  | .inr (.inr x) => some (.inr (some (.inr (.inr x)), μ))
  | _ => none := by
  unfold s_rt
  congr 1
  funext v μ
  rcases v with x | x | x | x <;> simp [am_ri]
theorem nI_lit (n : Nat) : (OfNat.ofNat n : Int32) = nI (OfNat.ofNat n) := rfl
theorem ck_X_0 : am_ck ShX 10 (vR 0) = true := rfl
theorem gv_X_0_0 (μ : am_M) : am_gv ShX 10 0 (vR 0) μ = some (vR 1) := rfl
theorem gv_X_0_1 (μ : am_M) : am_gv ShX 10 1 (vR 0) μ = some (vR 3) := rfl
theorem gv_X_0_2 (μ : am_M) : am_gv ShX 10 2 (vR 0) μ = some (vR 5) := rfl
theorem gv_X_0_3 (μ : am_M) : am_gv ShX 10 3 (vR 0) μ = some (vR 7) := rfl
theorem gv_X_0_4 (μ : am_M) : am_gv ShX 10 4 (vR 0) μ = some (vR 14) := rfl
theorem gv_X_0_5 (μ : am_M) : am_gv ShX 10 5 (vR 0) μ = some (vR 15) := rfl
theorem gv_X_0_6 (μ : am_M) : am_gv ShX 10 6 (vR 0) μ = some (vR 20) := rfl
theorem gv_X_0_7 (μ : am_M) : am_gv ShX 10 7 (vR 0) μ = some (vR 25) := rfl
theorem gv_X_0_8 (μ : am_M) : am_gv ShX 10 8 (vR 0) μ = some (vR 51) := rfl
theorem gv_X_0_9 (μ : am_M) : am_gv ShX 10 9 (vR 0) μ = some (vR 77) := rfl
theorem gv_X_0_10 (μ : am_M) : am_gv ShX 10 10 (vR 0) μ = some (vR 79) := rfl
theorem gv_X_0_11 (μ : am_M) : am_gv ShX 10 11 (vR 0) μ = some (vR 81) := rfl
theorem gv_X_0_12 (μ : am_M) : am_gv ShX 10 12 (vR 0) μ = some (vR 85) := rfl
theorem gv_X_0_13 (μ : am_M) : am_gv ShX 10 13 (vR 0) μ = some (vR 90) := rfl
theorem gv_X_0_14 (μ : am_M) : am_gv ShX 10 14 (vR 0) μ = some (vR 93) := rfl
theorem gv_X_0_15 (μ : am_M) : am_gv ShX 10 15 (vR 0) μ = some (vI (μ 0 15)) := rfl
theorem pv_X_0_15 (x : Int32) (μ : am_M) : am_pv ShX 10 15 false (vR 0) (vI x) μ = some (am_up μ 0 15 x) := am_pv_f rfl rfl
theorem gv_X_0_16 (μ : am_M) : am_gv ShX 10 16 (vR 0) μ = some (vI (μ 0 16)) := rfl
theorem pv_X_0_16 {x : Int32} (h : x = 0 ∨ x = 1) (μ : am_M) : am_pv ShX 10 16 true (vR 0) (vI x) μ = some (am_up μ 0 16 x) := am_pv_t rfl rfl h
theorem ck_X_7 : am_ck ShX 0 (vR 7) = true := rfl
theorem gv_X_7_0 (μ : am_M) : am_gv ShX 0 0 (vR 7) μ = some (vI (μ 7 0)) := rfl
theorem pv_X_7_0 (x : Int32) (μ : am_M) : am_pv ShX 0 0 false (vR 7) (vI x) μ = some (am_up μ 7 0 x) := am_pv_f rfl rfl
theorem gv_X_7_1 (μ : am_M) : am_gv ShX 0 1 (vR 7) μ = some (vR 8) := rfl
theorem gv_X_7_2 (μ : am_M) : am_gv ShX 0 2 (vR 7) μ = some (vR 9) := rfl
theorem gv_X_7_3 (μ : am_M) : am_gv ShX 0 3 (vR 7) μ = some (vR 10) := rfl
theorem gv_X_7_4 (μ : am_M) : am_gv ShX 0 4 (vR 7) μ = some (vR 11) := rfl
theorem gv_X_7_5 (μ : am_M) : am_gv ShX 0 5 (vR 7) μ = some (vR 12) := rfl
theorem gv_X_7_6 (μ : am_M) : am_gv ShX 0 6 (vR 7) μ = some (vR 13) := rfl
theorem gv_X_7_7 (μ : am_M) : am_gv ShX 0 7 (vR 7) μ = some (vI (μ 7 7)) := rfl
theorem pv_X_7_7 (x : Int32) (μ : am_M) : am_pv ShX 0 7 false (vR 7) (vI x) μ = some (am_up μ 7 7 x) := am_pv_f rfl rfl
theorem lv_X_8 {i : Nat} (h : i < 8) (μ : am_M) : am_lv ShX (vR 8) (vI (nI i)) μ = some (vI (μ 8 i)) := am_lv_i rfl h (by decide)
theorem wv_X_8 {i : Nat} (h : i < 8) (x : Int32) (μ : am_M) : am_wv ShX (vR 8) (vI (nI i)) (vI x) μ = some (am_up μ 8 i x) := am_wv_i rfl h (by decide)
theorem lv_X_9 {i : Nat} (h : i < 8) (μ : am_M) : am_lv ShX (vR 9) (vI (nI i)) μ = some (vI (μ 9 i)) := am_lv_i rfl h (by decide)
theorem wv_X_9 {i : Nat} (h : i < 8) (x : Int32) (μ : am_M) : am_wv ShX (vR 9) (vI (nI i)) (vI x) μ = some (am_up μ 9 i x) := am_wv_i rfl h (by decide)
theorem lv_X_10 {i : Nat} (h : i < 8) (μ : am_M) : am_lv ShX (vR 10) (vI (nI i)) μ = some (vI (μ 10 i)) := am_lv_i rfl h (by decide)
theorem wv_X_10 {i : Nat} (h : i < 8) (x : Int32) (μ : am_M) : am_wv ShX (vR 10) (vI (nI i)) (vI x) μ = some (am_up μ 10 i x) := am_wv_i rfl h (by decide)
theorem lv_X_11 {i : Nat} (h : i < 48) (μ : am_M) : am_lv ShX (vR 11) (vI (nI i)) μ = some (vI (μ 11 i)) := am_lv_i rfl h (by decide)
theorem wv_X_11 {i : Nat} (h : i < 48) (x : Int32) (μ : am_M) : am_wv ShX (vR 11) (vI (nI i)) (vI x) μ = some (am_up μ 11 i x) := am_wv_i rfl h (by decide)
theorem lv_X_12 {i : Nat} (h : i < 8) (μ : am_M) : am_lv ShX (vR 12) (vI (nI i)) μ = some (vI (μ 12 i)) := am_lv_i rfl h (by decide)
theorem wv_X_12 {i : Nat} (h : i < 8) (x : Int32) (μ : am_M) : am_wv ShX (vR 12) (vI (nI i)) (vI x) μ = some (am_up μ 12 i x) := am_wv_i rfl h (by decide)
theorem lv_X_13 {i : Nat} (h : i < 8) (μ : am_M) : am_lv ShX (vR 13) (vI (nI i)) μ = some (vI (μ 13 i)) := am_lv_i rfl h (by decide)
theorem wv_X_13 {i : Nat} (h : i < 8) (x : Int32) (μ : am_M) : am_wv ShX (vR 13) (vI (nI i)) (vI x) μ = some (am_up μ 13 i x) := am_wv_i rfl h (by decide)
theorem lv_X_14 {i : Nat} (h : i < 20) (μ : am_M) : am_lv ShX (vR 14) (vI (nI i)) μ = some (vI (μ 14 i)) := am_lv_i rfl h (by decide)
theorem wv_X_14 {i : Nat} (h : i < 20) (x : Int32) (μ : am_M) : am_wv ShX (vR 14) (vI (nI i)) (vI x) μ = some (am_up μ 14 i x) := am_wv_i rfl h (by decide)
theorem ck_X_15 : am_ck ShX 1 (vR 15) = true := rfl
theorem gv_X_15_0 (μ : am_M) : am_gv ShX 1 0 (vR 15) μ = some (vI (μ 15 0)) := rfl
theorem pv_X_15_0 (x : Int32) (μ : am_M) : am_pv ShX 1 0 false (vR 15) (vI x) μ = some (am_up μ 15 0 x) := am_pv_f rfl rfl
theorem gv_X_15_1 (μ : am_M) : am_gv ShX 1 1 (vR 15) μ = some (vR 16) := rfl
theorem gv_X_15_2 (μ : am_M) : am_gv ShX 1 2 (vR 15) μ = some (vR 17) := rfl
theorem gv_X_15_3 (μ : am_M) : am_gv ShX 1 3 (vR 15) μ = some (vR 18) := rfl
theorem gv_X_15_4 (μ : am_M) : am_gv ShX 1 4 (vR 15) μ = some (vR 19) := rfl
theorem gv_X_15_5 (μ : am_M) : am_gv ShX 1 5 (vR 15) μ = some (vI (μ 15 5)) := rfl
theorem pv_X_15_5 (x : Int32) (μ : am_M) : am_pv ShX 1 5 false (vR 15) (vI x) μ = some (am_up μ 15 5 x) := am_pv_f rfl rfl
theorem lv_X_16 {i : Nat} (h : i < 8) (μ : am_M) : am_lv ShX (vR 16) (vI (nI i)) μ = some (vI (μ 16 i)) := am_lv_i rfl h (by decide)
theorem wv_X_16 {i : Nat} (h : i < 8) (x : Int32) (μ : am_M) : am_wv ShX (vR 16) (vI (nI i)) (vI x) μ = some (am_up μ 16 i x) := am_wv_i rfl h (by decide)
theorem lv_X_17 {i : Nat} (h : i < 8) (μ : am_M) : am_lv ShX (vR 17) (vI (nI i)) μ = some (vI (μ 17 i)) := am_lv_i rfl h (by decide)
theorem wv_X_17 {i : Nat} (h : i < 8) (x : Int32) (μ : am_M) : am_wv ShX (vR 17) (vI (nI i)) (vI x) μ = some (am_up μ 17 i x) := am_wv_i rfl h (by decide)
theorem lv_X_18 {i : Nat} (h : i < 8) (μ : am_M) : am_lv ShX (vR 18) (vI (nI i)) μ = some (vI (μ 18 i)) := am_lv_i rfl h (by decide)
theorem wv_X_18 {i : Nat} (h : i < 8) (x : Int32) (μ : am_M) : am_wv ShX (vR 18) (vI (nI i)) (vI x) μ = some (am_up μ 18 i x) := am_wv_i rfl h (by decide)
theorem lv_X_19 {i : Nat} (h : i < 8) (μ : am_M) : am_lv ShX (vR 19) (vI (nI i)) μ = some (vI (μ 19 i)) := am_lv_i rfl h (by decide)
theorem wv_X_19 {i : Nat} (h : i < 8) (x : Int32) (μ : am_M) : am_wv ShX (vR 19) (vI (nI i)) (vI x) μ = some (am_up μ 19 i x) := am_wv_i rfl h (by decide)
theorem ck_X_20 : am_ck ShX 1 (vR 20) = true := rfl
theorem gv_X_20_0 (μ : am_M) : am_gv ShX 1 0 (vR 20) μ = some (vI (μ 20 0)) := rfl
theorem pv_X_20_0 (x : Int32) (μ : am_M) : am_pv ShX 1 0 false (vR 20) (vI x) μ = some (am_up μ 20 0 x) := am_pv_f rfl rfl
theorem gv_X_20_1 (μ : am_M) : am_gv ShX 1 1 (vR 20) μ = some (vR 21) := rfl
theorem gv_X_20_2 (μ : am_M) : am_gv ShX 1 2 (vR 20) μ = some (vR 22) := rfl
theorem gv_X_20_3 (μ : am_M) : am_gv ShX 1 3 (vR 20) μ = some (vR 23) := rfl
theorem gv_X_20_4 (μ : am_M) : am_gv ShX 1 4 (vR 20) μ = some (vR 24) := rfl
theorem gv_X_20_5 (μ : am_M) : am_gv ShX 1 5 (vR 20) μ = some (vI (μ 20 5)) := rfl
theorem pv_X_20_5 (x : Int32) (μ : am_M) : am_pv ShX 1 5 false (vR 20) (vI x) μ = some (am_up μ 20 5 x) := am_pv_f rfl rfl
theorem lv_X_21 {i : Nat} (h : i < 8) (μ : am_M) : am_lv ShX (vR 21) (vI (nI i)) μ = some (vI (μ 21 i)) := am_lv_i rfl h (by decide)
theorem wv_X_21 {i : Nat} (h : i < 8) (x : Int32) (μ : am_M) : am_wv ShX (vR 21) (vI (nI i)) (vI x) μ = some (am_up μ 21 i x) := am_wv_i rfl h (by decide)
theorem lv_X_22 {i : Nat} (h : i < 8) (μ : am_M) : am_lv ShX (vR 22) (vI (nI i)) μ = some (vI (μ 22 i)) := am_lv_i rfl h (by decide)
theorem wv_X_22 {i : Nat} (h : i < 8) (x : Int32) (μ : am_M) : am_wv ShX (vR 22) (vI (nI i)) (vI x) μ = some (am_up μ 22 i x) := am_wv_i rfl h (by decide)
theorem lv_X_23 {i : Nat} (h : i < 8) (μ : am_M) : am_lv ShX (vR 23) (vI (nI i)) μ = some (vI (μ 23 i)) := am_lv_i rfl h (by decide)
theorem wv_X_23 {i : Nat} (h : i < 8) (x : Int32) (μ : am_M) : am_wv ShX (vR 23) (vI (nI i)) (vI x) μ = some (am_up μ 23 i x) := am_wv_i rfl h (by decide)
theorem lv_X_24 {i : Nat} (h : i < 8) (μ : am_M) : am_lv ShX (vR 24) (vI (nI i)) μ = some (vI (μ 24 i)) := am_lv_i rfl h (by decide)
theorem wv_X_24 {i : Nat} (h : i < 8) (x : Int32) (μ : am_M) : am_wv ShX (vR 24) (vI (nI i)) (vI x) μ = some (am_up μ 24 i x) := am_wv_i rfl h (by decide)
theorem ck_X_25 : am_ck ShX 5 (vR 25) = true := rfl
theorem gv_X_25_0 (μ : am_M) : am_gv ShX 5 0 (vR 25) μ = some (vR 26) := rfl
theorem ck_X_51 : am_ck ShX 5 (vR 51) = true := rfl
theorem gv_X_51_0 (μ : am_M) : am_gv ShX 5 0 (vR 51) μ = some (vR 52) := rfl
theorem ck_X_77 : am_ck ShX 9 (vR 77) = true := rfl
theorem gv_X_77_0 (μ : am_M) : am_gv ShX 9 0 (vR 77) μ = some (vI (μ 77 0)) := rfl
theorem pv_X_77_0 (x : Int32) (μ : am_M) : am_pv ShX 9 0 false (vR 77) (vI x) μ = some (am_up μ 77 0 x) := am_pv_f rfl rfl
theorem gv_X_77_1 (μ : am_M) : am_gv ShX 9 1 (vR 77) μ = some (vR 78) := rfl
theorem lv_X_78 {i : Nat} (h : i < 8) (μ : am_M) : am_lv ShX (vR 78) (vI (nI i)) μ = some (vI (μ 78 i)) := am_lv_i rfl h (by decide)
theorem wv_X_78 {i : Nat} (h : i < 8) (x : Int32) (μ : am_M) : am_wv ShX (vR 78) (vI (nI i)) (vI x) μ = some (am_up μ 78 i x) := am_wv_i rfl h (by decide)
theorem ck_X_79 : am_ck ShX 9 (vR 79) = true := rfl
theorem gv_X_79_0 (μ : am_M) : am_gv ShX 9 0 (vR 79) μ = some (vI (μ 79 0)) := rfl
theorem pv_X_79_0 (x : Int32) (μ : am_M) : am_pv ShX 9 0 false (vR 79) (vI x) μ = some (am_up μ 79 0 x) := am_pv_f rfl rfl
theorem gv_X_79_1 (μ : am_M) : am_gv ShX 9 1 (vR 79) μ = some (vR 80) := rfl
theorem lv_X_80 {i : Nat} (h : i < 8) (μ : am_M) : am_lv ShX (vR 80) (vI (nI i)) μ = some (vI (μ 80 i)) := am_lv_i rfl h (by decide)
theorem wv_X_80 {i : Nat} (h : i < 8) (x : Int32) (μ : am_M) : am_wv ShX (vR 80) (vI (nI i)) (vI x) μ = some (am_up μ 80 i x) := am_wv_i rfl h (by decide)
theorem ck_X_81 : am_ck ShX 8 (vR 81) = true := rfl
theorem gv_X_81_0 (μ : am_M) : am_gv ShX 8 0 (vR 81) μ = some (vI (μ 81 0)) := rfl
theorem pv_X_81_0 (x : Int32) (μ : am_M) : am_pv ShX 8 0 false (vR 81) (vI x) μ = some (am_up μ 81 0 x) := am_pv_f rfl rfl
theorem gv_X_81_1 (μ : am_M) : am_gv ShX 8 1 (vR 81) μ = some (vI (μ 81 1)) := rfl
theorem pv_X_81_1 (x : Int32) (μ : am_M) : am_pv ShX 8 1 false (vR 81) (vI x) μ = some (am_up μ 81 1 x) := am_pv_f rfl rfl
theorem gv_X_81_2 (μ : am_M) : am_gv ShX 8 2 (vR 81) μ = some (vR 82) := rfl
theorem gv_X_81_3 (μ : am_M) : am_gv ShX 8 3 (vR 81) μ = some (vI (μ 81 3)) := rfl
theorem pv_X_81_3 {x : Int32} (h : x = 0 ∨ x = 1) (μ : am_M) : am_pv ShX 8 3 true (vR 81) (vI x) μ = some (am_up μ 81 3 x) := am_pv_t rfl rfl h
theorem gv_X_81_4 (μ : am_M) : am_gv ShX 8 4 (vR 81) μ = some (vR 83) := rfl
theorem gv_X_81_5 (μ : am_M) : am_gv ShX 8 5 (vR 81) μ = some (vR 84) := rfl
theorem gv_X_81_6 (μ : am_M) : am_gv ShX 8 6 (vR 81) μ = some (vI (μ 81 6)) := rfl
theorem pv_X_81_6 (x : Int32) (μ : am_M) : am_pv ShX 8 6 false (vR 81) (vI x) μ = some (am_up μ 81 6 x) := am_pv_f rfl rfl
theorem lv_X_82 {i : Nat} (h : i < 8) (μ : am_M) : am_lv ShX (vR 82) (vI (nI i)) μ = some (vI (μ 82 i)) := am_lv_i rfl h (by decide)
theorem wv_X_82 {i : Nat} (h : i < 8) (x : Int32) (μ : am_M) : am_wv ShX (vR 82) (vI (nI i)) (vI x) μ = some (am_up μ 82 i x) := am_wv_i rfl h (by decide)
theorem lv_X_83 {i : Nat} (h : i < 8) (μ : am_M) : am_lv ShX (vR 83) (vI (nI i)) μ = some (vI (μ 83 i)) := am_lv_i rfl h (by decide)
theorem wv_X_83 {i : Nat} (h : i < 8) (x : Int32) (μ : am_M) : am_wv ShX (vR 83) (vI (nI i)) (vI x) μ = some (am_up μ 83 i x) := am_wv_i rfl h (by decide)
theorem lv_X_84 {i : Nat} (h : i < 2048) (μ : am_M) : am_lv ShX (vR 84) (vI (nI i)) μ = some (vI (μ 84 i)) := am_lv_i rfl h (by decide)
theorem wv_X_84 {i : Nat} (h : i < 2048) (x : Int32) (μ : am_M) : am_wv ShX (vR 84) (vI (nI i)) (vI x) μ = some (am_up μ 84 i x) := am_wv_i rfl h (by decide)
theorem ck_X_85 : am_ck ShX 6 (vR 85) = true := rfl
theorem gv_X_85_0 (μ : am_M) : am_gv ShX 6 0 (vR 85) μ = some (vI (μ 85 0)) := rfl
theorem pv_X_85_0 (x : Int32) (μ : am_M) : am_pv ShX 6 0 false (vR 85) (vI x) μ = some (am_up μ 85 0 x) := am_pv_f rfl rfl
theorem gv_X_85_1 (μ : am_M) : am_gv ShX 6 1 (vR 85) μ = some (vR 86) := rfl
theorem gv_X_85_2 (μ : am_M) : am_gv ShX 6 2 (vR 85) μ = some (vR 87) := rfl
theorem gv_X_85_3 (μ : am_M) : am_gv ShX 6 3 (vR 85) μ = some (vR 88) := rfl
theorem gv_X_85_4 (μ : am_M) : am_gv ShX 6 4 (vR 85) μ = some (vR 89) := rfl
theorem lv_X_86 {i : Nat} (h : i < 8) (μ : am_M) : am_lv ShX (vR 86) (vI (nI i)) μ = some (vI (μ 86 i)) := am_lv_i rfl h (by decide)
theorem wv_X_86 {i : Nat} (h : i < 8) (x : Int32) (μ : am_M) : am_wv ShX (vR 86) (vI (nI i)) (vI x) μ = some (am_up μ 86 i x) := am_wv_i rfl h (by decide)
theorem lv_X_87 {i : Nat} (h : i < 8) (μ : am_M) : am_lv ShX (vR 87) (vI (nI i)) μ = some (vI (μ 87 i)) := am_lv_i rfl h (by decide)
theorem wv_X_87 {i : Nat} (h : i < 8) (x : Int32) (μ : am_M) : am_wv ShX (vR 87) (vI (nI i)) (vI x) μ = some (am_up μ 87 i x) := am_wv_i rfl h (by decide)
theorem lv_X_88 {i : Nat} (h : i < 8) (μ : am_M) : am_lv ShX (vR 88) (vI (nI i)) μ = some (vI (μ 88 i)) := am_lv_i rfl h (by decide)
theorem wv_X_88 {i : Nat} (h : i < 8) (x : Int32) (μ : am_M) : am_wv ShX (vR 88) (vI (nI i)) (vI x) μ = some (am_up μ 88 i x) := am_wv_i rfl h (by decide)
theorem lv_X_89 {i : Nat} (h : i < 100) (μ : am_M) : am_lv ShX (vR 89) (vI (nI i)) μ = some (vI (μ 89 i)) := am_lv_i rfl h (by decide)
theorem wv_X_89 {i : Nat} (h : i < 100) (x : Int32) (μ : am_M) : am_wv ShX (vR 89) (vI (nI i)) (vI x) μ = some (am_up μ 89 i x) := am_wv_i rfl h (by decide)
theorem ck_X_90 : am_ck ShX 2 (vR 90) = true := rfl
theorem gv_X_90_0 (μ : am_M) : am_gv ShX 2 0 (vR 90) μ = some (vR 91) := rfl
theorem gv_X_90_1 (μ : am_M) : am_gv ShX 2 1 (vR 90) μ = some (vR 92) := rfl
theorem gv_X_90_2 (μ : am_M) : am_gv ShX 2 2 (vR 90) μ = some (vI (μ 90 2)) := rfl
theorem pv_X_90_2 (x : Int32) (μ : am_M) : am_pv ShX 2 2 false (vR 90) (vI x) μ = some (am_up μ 90 2 x) := am_pv_f rfl rfl
theorem lv_X_91 {i : Nat} (h : i < 6) (μ : am_M) : am_lv ShX (vR 91) (vI (nI i)) μ = some (vI (μ 91 i)) := am_lv_i rfl h (by decide)
theorem wv_X_91 {i : Nat} (h : i < 6) (x : Int32) (μ : am_M) : am_wv ShX (vR 91) (vI (nI i)) (vI x) μ = some (am_up μ 91 i x) := am_wv_i rfl h (by decide)
theorem lv_X_92 {i : Nat} (h : i < 24) (μ : am_M) : am_lv ShX (vR 92) (vI (nI i)) μ = some (vI (μ 92 i)) := am_lv_i rfl h (by decide)
theorem wv_X_92 {i : Nat} (h : i < 24) (x : Int32) (μ : am_M) : am_wv ShX (vR 92) (vI (nI i)) (vI x) μ = some (am_up μ 92 i x) := am_wv_i rfl h (by decide)
theorem ck_M_0 : am_ck ShM 11 (vR 0) = true := rfl
theorem gv_M_0_0 (μ : am_M) : am_gv ShM 11 0 (vR 0) μ = some (vR 1) := rfl
theorem gv_M_0_1 (μ : am_M) : am_gv ShM 11 1 (vR 0) μ = some (vR 2) := rfl
theorem gv_M_0_2 (μ : am_M) : am_gv ShM 11 2 (vR 0) μ = some (vR 3) := rfl
theorem gv_M_0_3 (μ : am_M) : am_gv ShM 11 3 (vR 0) μ = some (vR 4) := rfl
theorem gv_M_0_4 (μ : am_M) : am_gv ShM 11 4 (vR 0) μ = some (vI (μ 0 4)) := rfl
theorem pv_M_0_4 (x : Int32) (μ : am_M) : am_pv ShM 11 4 false (vR 0) (vI x) μ = some (am_up μ 0 4 x) := am_pv_f rfl rfl
theorem gv_M_0_5 (μ : am_M) : am_gv ShM 11 5 (vR 0) μ = some (vR 5) := rfl
theorem gv_M_0_6 (μ : am_M) : am_gv ShM 11 6 (vR 0) μ = some (vR 6) := rfl
theorem gv_M_0_7 (μ : am_M) : am_gv ShM 11 7 (vR 0) μ = some (vI (μ 0 7)) := rfl
theorem pv_M_0_7 (x : Int32) (μ : am_M) : am_pv ShM 11 7 false (vR 0) (vI x) μ = some (am_up μ 0 7 x) := am_pv_f rfl rfl
theorem gv_M_0_8 (μ : am_M) : am_gv ShM 11 8 (vR 0) μ = some (vR 7) := rfl
theorem gv_M_0_9 (μ : am_M) : am_gv ShM 11 9 (vR 0) μ = some (vR 8) := rfl
theorem gv_M_0_10 (μ : am_M) : am_gv ShM 11 10 (vR 0) μ = some (vR 9) := rfl
theorem gv_M_0_11 (μ : am_M) : am_gv ShM 11 11 (vR 0) μ = some (vR 10) := rfl
theorem gv_M_0_12 (μ : am_M) : am_gv ShM 11 12 (vR 0) μ = some (vR 11) := rfl
theorem gv_M_0_13 (μ : am_M) : am_gv ShM 11 13 (vR 0) μ = some (vI (μ 0 13)) := rfl
theorem pv_M_0_13 (x : Int32) (μ : am_M) : am_pv ShM 11 13 false (vR 0) (vI x) μ = some (am_up μ 0 13 x) := am_pv_f rfl rfl
theorem gv_M_0_14 (μ : am_M) : am_gv ShM 11 14 (vR 0) μ = some (vR 12) := rfl
theorem gv_M_0_15 (μ : am_M) : am_gv ShM 11 15 (vR 0) μ = some (vI (μ 0 15)) := rfl
theorem pv_M_0_15 (x : Int32) (μ : am_M) : am_pv ShM 11 15 false (vR 0) (vI x) μ = some (am_up μ 0 15 x) := am_pv_f rfl rfl
theorem gv_M_0_16 (μ : am_M) : am_gv ShM 11 16 (vR 0) μ = some (vR 13) := rfl
theorem gv_M_0_17 (μ : am_M) : am_gv ShM 11 17 (vR 0) μ = some (vR 14) := rfl
theorem gv_M_0_18 (μ : am_M) : am_gv ShM 11 18 (vR 0) μ = some (vR 15) := rfl
theorem gv_M_0_19 (μ : am_M) : am_gv ShM 11 19 (vR 0) μ = some (vR 16) := rfl
theorem gv_M_0_20 (μ : am_M) : am_gv ShM 11 20 (vR 0) μ = some (vR 17) := rfl
theorem gv_M_0_21 (μ : am_M) : am_gv ShM 11 21 (vR 0) μ = some (vR 18) := rfl
theorem gv_M_0_22 (μ : am_M) : am_gv ShM 11 22 (vR 0) μ = some (vI (μ 0 22)) := rfl
theorem pv_M_0_22 (x : Int32) (μ : am_M) : am_pv ShM 11 22 false (vR 0) (vI x) μ = some (am_up μ 0 22 x) := am_pv_f rfl rfl
theorem gv_M_0_23 (μ : am_M) : am_gv ShM 11 23 (vR 0) μ = some (vR 19) := rfl
theorem gv_M_0_24 (μ : am_M) : am_gv ShM 11 24 (vR 0) μ = some (vR 20) := rfl
theorem gv_M_0_25 (μ : am_M) : am_gv ShM 11 25 (vR 0) μ = some (vR 21) := rfl
theorem gv_M_0_26 (μ : am_M) : am_gv ShM 11 26 (vR 0) μ = some (vR 22) := rfl
theorem gv_M_0_27 (μ : am_M) : am_gv ShM 11 27 (vR 0) μ = some (vI (μ 0 27)) := rfl
theorem pv_M_0_27 (x : Int32) (μ : am_M) : am_pv ShM 11 27 false (vR 0) (vI x) μ = some (am_up μ 0 27 x) := am_pv_f rfl rfl
theorem gv_M_0_28 (μ : am_M) : am_gv ShM 11 28 (vR 0) μ = some (vI (μ 0 28)) := rfl
theorem pv_M_0_28 (x : Int32) (μ : am_M) : am_pv ShM 11 28 false (vR 0) (vI x) μ = some (am_up μ 0 28 x) := am_pv_f rfl rfl
theorem gv_M_0_29 (μ : am_M) : am_gv ShM 11 29 (vR 0) μ = some (vR 23) := rfl
theorem gv_M_0_30 (μ : am_M) : am_gv ShM 11 30 (vR 0) μ = some (vR 24) := rfl
theorem gv_M_0_31 (μ : am_M) : am_gv ShM 11 31 (vR 0) μ = some (vI (μ 0 31)) := rfl
theorem pv_M_0_31 (x : Int32) (μ : am_M) : am_pv ShM 11 31 false (vR 0) (vI x) μ = some (am_up μ 0 31 x) := am_pv_f rfl rfl
theorem gv_M_0_32 (μ : am_M) : am_gv ShM 11 32 (vR 0) μ = some (vR 25) := rfl
theorem gv_M_0_33 (μ : am_M) : am_gv ShM 11 33 (vR 0) μ = some (vR 26) := rfl
theorem gv_M_0_34 (μ : am_M) : am_gv ShM 11 34 (vR 0) μ = some (vI (μ 0 34)) := rfl
theorem pv_M_0_34 (x : Int32) (μ : am_M) : am_pv ShM 11 34 false (vR 0) (vI x) μ = some (am_up μ 0 34 x) := am_pv_f rfl rfl
theorem gv_M_0_35 (μ : am_M) : am_gv ShM 11 35 (vR 0) μ = some (vR 27) := rfl
theorem lv_M_1 {i : Nat} (h : i < 4) (μ : am_M) : am_lv ShM (vR 1) (vI (nI i)) μ = some (vI (μ 1 i)) := am_lv_i rfl h (by decide)
theorem wv_M_1 {i : Nat} (h : i < 4) (x : Int32) (μ : am_M) : am_wv ShM (vR 1) (vI (nI i)) (vI x) μ = some (am_up μ 1 i x) := am_wv_i rfl h (by decide)
theorem lv_M_2 {i : Nat} (h : i < 4) (μ : am_M) : am_lv ShM (vR 2) (vI (nI i)) μ = some (vI (μ 2 i)) := am_lv_i rfl h (by decide)
theorem wv_M_2 {i : Nat} (h : i < 4) (x : Int32) (μ : am_M) : am_wv ShM (vR 2) (vI (nI i)) (vI x) μ = some (am_up μ 2 i x) := am_wv_i rfl h (by decide)
theorem lv_M_3 {i : Nat} (h : i < 240) (μ : am_M) : am_lv ShM (vR 3) (vI (nI i)) μ = some (vI (μ 3 i)) := am_lv_i rfl h (by decide)
theorem wv_M_3 {i : Nat} (h : i < 240) (x : Int32) (μ : am_M) : am_wv ShM (vR 3) (vI (nI i)) (vI x) μ = some (am_up μ 3 i x) := am_wv_i rfl h (by decide)
theorem lv_M_4 {i : Nat} (h : i < 60) (μ : am_M) : am_lv ShM (vR 4) (vI (nI i)) μ = some (vI (μ 4 i)) := am_lv_i rfl h (by decide)
theorem wv_M_4 {i : Nat} (h : i < 60) (x : Int32) (μ : am_M) : am_wv ShM (vR 4) (vI (nI i)) (vI x) μ = some (am_up μ 4 i x) := am_wv_i rfl h (by decide)
theorem lv_M_5 {i : Nat} (h : i < 216) (μ : am_M) : am_lv ShM (vR 5) (vI (nI i)) μ = some (vI (μ 5 i)) := am_lv_i rfl h (by decide)
theorem wv_M_5 {i : Nat} (h : i < 216) (x : Int32) (μ : am_M) : am_wv ShM (vR 5) (vI (nI i)) (vI x) μ = some (am_up μ 5 i x) := am_wv_i rfl h (by decide)
theorem lv_M_6 {i : Nat} (h : i < 3) (μ : am_M) : am_lv ShM (vR 6) (vI (nI i)) μ = some (vI (μ 6 i)) := am_lv_i rfl h (by decide)
theorem wv_M_6 {i : Nat} (h : i < 3) (x : Int32) (μ : am_M) : am_wv ShM (vR 6) (vI (nI i)) (vI x) μ = some (am_up μ 6 i x) := am_wv_i rfl h (by decide)
theorem lv_M_7 {i : Nat} (h : i < 8) (μ : am_M) : am_lv ShM (vR 7) (vI (nI i)) μ = some (vI (μ 7 i)) := am_lv_i rfl h (by decide)
theorem wv_M_7 {i : Nat} (h : i < 8) (x : Int32) (μ : am_M) : am_wv ShM (vR 7) (vI (nI i)) (vI x) μ = some (am_up μ 7 i x) := am_wv_i rfl h (by decide)
theorem lv_M_8 {i : Nat} (h : i < 8) (μ : am_M) : am_lv ShM (vR 8) (vI (nI i)) μ = some (vI (μ 8 i)) := am_lv_i rfl h (by decide)
theorem wv_M_8 {i : Nat} (h : i < 8) (x : Int32) (μ : am_M) : am_wv ShM (vR 8) (vI (nI i)) (vI x) μ = some (am_up μ 8 i x) := am_wv_i rfl h (by decide)
theorem lv_M_9 {i : Nat} (h : i < 8) (μ : am_M) : am_lv ShM (vR 9) (vI (nI i)) μ = some (vI (μ 9 i)) := am_lv_i rfl h (by decide)
theorem wv_M_9 {i : Nat} (h : i < 8) (x : Int32) (μ : am_M) : am_wv ShM (vR 9) (vI (nI i)) (vI x) μ = some (am_up μ 9 i x) := am_wv_i rfl h (by decide)
theorem lv_M_10 {i : Nat} (h : i < 48) (μ : am_M) : am_lv ShM (vR 10) (vI (nI i)) μ = some (vI (μ 10 i)) := am_lv_i rfl h (by decide)
theorem wv_M_10 {i : Nat} (h : i < 48) (x : Int32) (μ : am_M) : am_wv ShM (vR 10) (vI (nI i)) (vI x) μ = some (am_up μ 10 i x) := am_wv_i rfl h (by decide)
theorem lv_M_11 {i : Nat} (h : i < 20) (μ : am_M) : am_lv ShM (vR 11) (vI (nI i)) μ = some (vI (μ 11 i)) := am_lv_i rfl h (by decide)
theorem wv_M_11 {i : Nat} (h : i < 20) (x : Int32) (μ : am_M) : am_wv ShM (vR 11) (vI (nI i)) (vI x) μ = some (am_up μ 11 i x) := am_wv_i rfl h (by decide)
theorem lv_M_12 {i : Nat} (h : i < 8) (μ : am_M) : am_lv ShM (vR 12) (vI (nI i)) μ = some (vI (μ 12 i)) := am_lv_i rfl h (by decide)
theorem wv_M_12 {i : Nat} (h : i < 8) (x : Int32) (μ : am_M) : am_wv ShM (vR 12) (vI (nI i)) (vI x) μ = some (am_up μ 12 i x) := am_wv_i rfl h (by decide)
theorem lv_M_13 {i : Nat} (h : i < 32) (μ : am_M) : am_lv ShM (vR 13) (vI (nI i)) μ = some (vI (μ 13 i)) := am_lv_i rfl h (by decide)
theorem wv_M_13 {i : Nat} (h : i < 32) (x : Int32) (μ : am_M) : am_wv ShM (vR 13) (vI (nI i)) (vI x) μ = some (am_up μ 13 i x) := am_wv_i rfl h (by decide)
theorem lv_M_14 {i : Nat} (h : i < 160) (μ : am_M) : am_lv ShM (vR 14) (vI (nI i)) μ = some (vI (μ 14 i)) := am_lv_i rfl h (by decide)
theorem wv_M_14 {i : Nat} (h : i < 160) (x : Int32) (μ : am_M) : am_wv ShM (vR 14) (vI (nI i)) (vI x) μ = some (am_up μ 14 i x) := am_wv_i rfl h (by decide)
theorem lv_M_15 {i : Nat} (h : i < 160) (μ : am_M) : am_lv ShM (vR 15) (vI (nI i)) μ = some (vI (μ 15 i)) := am_lv_i rfl h (by decide)
theorem wv_M_15 {i : Nat} (h : i < 160) (x : Int32) (μ : am_M) : am_wv ShM (vR 15) (vI (nI i)) (vI x) μ = some (am_up μ 15 i x) := am_wv_i rfl h (by decide)
theorem lv_M_16 {i : Nat} (h : i < 20) (μ : am_M) : am_lv ShM (vR 16) (vI (nI i)) μ = some (vI (μ 16 i)) := am_lv_i rfl h (by decide)
theorem wv_M_16 {i : Nat} (h : i < 20) (x : Int32) (μ : am_M) : am_wv ShM (vR 16) (vI (nI i)) (vI x) μ = some (am_up μ 16 i x) := am_wv_i rfl h (by decide)
theorem lv_M_17 {i : Nat} (h : i < 8) (μ : am_M) : am_lv ShM (vR 17) (vI (nI i)) μ = some (vI (μ 17 i)) := am_lv_i rfl h (by decide)
theorem wv_M_17 {i : Nat} (h : i < 8) (x : Int32) (μ : am_M) : am_wv ShM (vR 17) (vI (nI i)) (vI x) μ = some (am_up μ 17 i x) := am_wv_i rfl h (by decide)
theorem lv_M_18 {i : Nat} (h : i < 8) (μ : am_M) : am_lv ShM (vR 18) (vI (nI i)) μ = some (vI (μ 18 i)) := am_lv_i rfl h (by decide)
theorem wv_M_18 {i : Nat} (h : i < 8) (x : Int32) (μ : am_M) : am_wv ShM (vR 18) (vI (nI i)) (vI x) μ = some (am_up μ 18 i x) := am_wv_i rfl h (by decide)
theorem lv_M_19 {i : Nat} (h : i < 8) (μ : am_M) : am_lv ShM (vR 19) (vI (nI i)) μ = some (vI (μ 19 i)) := am_lv_i rfl h (by decide)
theorem wv_M_19 {i : Nat} (h : i < 8) (x : Int32) (μ : am_M) : am_wv ShM (vR 19) (vI (nI i)) (vI x) μ = some (am_up μ 19 i x) := am_wv_i rfl h (by decide)
theorem lv_M_20 {i : Nat} (h : i < 8) (μ : am_M) : am_lv ShM (vR 20) (vI (nI i)) μ = some (vI (μ 20 i)) := am_lv_i rfl h (by decide)
theorem wv_M_20 {i : Nat} (h : i < 8) (x : Int32) (μ : am_M) : am_wv ShM (vR 20) (vI (nI i)) (vI x) μ = some (am_up μ 20 i x) := am_wv_i rfl h (by decide)
theorem lv_M_21 {i : Nat} (h : i < 8) (μ : am_M) : am_lv ShM (vR 21) (vI (nI i)) μ = some (vI (μ 21 i)) := am_lv_i rfl h (by decide)
theorem wv_M_21 {i : Nat} (h : i < 8) (x : Int32) (μ : am_M) : am_wv ShM (vR 21) (vI (nI i)) (vI x) μ = some (am_up μ 21 i x) := am_wv_i rfl h (by decide)
theorem lv_M_22 {i : Nat} (h : i < 8) (μ : am_M) : am_lv ShM (vR 22) (vI (nI i)) μ = some (vI (μ 22 i)) := am_lv_i rfl h (by decide)
theorem wv_M_22 {i : Nat} (h : i < 8) (x : Int32) (μ : am_M) : am_wv ShM (vR 22) (vI (nI i)) (vI x) μ = some (am_up μ 22 i x) := am_wv_i rfl h (by decide)
theorem lv_M_23 {i : Nat} (h : i < 6) (μ : am_M) : am_lv ShM (vR 23) (vI (nI i)) μ = some (vI (μ 23 i)) := am_lv_i rfl h (by decide)
theorem wv_M_23 {i : Nat} (h : i < 6) (x : Int32) (μ : am_M) : am_wv ShM (vR 23) (vI (nI i)) (vI x) μ = some (am_up μ 23 i x) := am_wv_i rfl h (by decide)
theorem lv_M_24 {i : Nat} (h : i < 6) (μ : am_M) : am_lv ShM (vR 24) (vI (nI i)) μ = some (vI (μ 24 i)) := am_lv_i rfl h (by decide)
theorem wv_M_24 {i : Nat} (h : i < 6) (x : Int32) (μ : am_M) : am_wv ShM (vR 24) (vI (nI i)) (vI x) μ = some (am_up μ 24 i x) := am_wv_i rfl h (by decide)
theorem lv_M_25 {i : Nat} (h : i < 24) (μ : am_M) : am_lv ShM (vR 25) (vI (nI i)) μ = some (vI (μ 25 i)) := am_lv_i rfl h (by decide)
theorem wv_M_25 {i : Nat} (h : i < 24) (x : Int32) (μ : am_M) : am_wv ShM (vR 25) (vI (nI i)) (vI x) μ = some (am_up μ 25 i x) := am_wv_i rfl h (by decide)
theorem lv_M_26 {i : Nat} (h : i < 100) (μ : am_M) : am_lv ShM (vR 26) (vI (nI i)) μ = some (vI (μ 26 i)) := am_lv_i rfl h (by decide)
theorem wv_M_26 {i : Nat} (h : i < 100) (x : Int32) (μ : am_M) : am_wv ShM (vR 26) (vI (nI i)) (vI x) μ = some (am_up μ 26 i x) := am_wv_i rfl h (by decide)
theorem lv_M_27 {i : Nat} (h : i < 32) (μ : am_M) : am_lv ShM (vR 27) (vI (nI i)) μ = some (vI (μ 27 i)) := am_lv_i rfl h (by decide)
theorem wv_M_27 {i : Nat} (h : i < 32) (x : Int32) (μ : am_M) : am_wv ShM (vR 27) (vI (nI i)) (vI x) μ = some (am_up μ 27 i x) := am_wv_i rfl h (by decide)
theorem ck_T {s : Nat} (hs : s < 3) : am_ck ShX 7 (vR (1 + 2 * s)) = true := by
  match s, hs with
  | 0, _ => exact rfl
  | 1, _ => exact rfl
  | 2, _ => exact rfl
  | n + 3, hs => omega
theorem gv_T_0 {s : Nat} (hs : s < 3) (μ : am_M) : am_gv ShX 7 0 (vR (1 + 2 * s)) μ = some (vR (2 + 2 * s)) := by
  match s, hs with
  | 0, _ => exact rfl
  | 1, _ => exact rfl
  | 2, _ => exact rfl
  | n + 3, hs => omega
theorem gv_T_1 {s : Nat} (hs : s < 3) (μ : am_M) : am_gv ShX 7 1 (vR (1 + 2 * s)) μ = some (vI (μ (1 + 2 * s) 1)) := by
  match s, hs with
  | 0, _ => exact rfl
  | 1, _ => exact rfl
  | 2, _ => exact rfl
  | n + 3, hs => omega
theorem gv_T_2 {s : Nat} (hs : s < 3) (μ : am_M) : am_gv ShX 7 2 (vR (1 + 2 * s)) μ = some (vI (μ (1 + 2 * s) 2)) := by
  match s, hs with
  | 0, _ => exact rfl
  | 1, _ => exact rfl
  | 2, _ => exact rfl
  | n + 3, hs => omega
theorem pv_T_2 {s : Nat} (hs : s < 3) (x : Int32) (μ : am_M) : am_pv ShX 7 2 false (vR (1 + 2 * s)) (vI x) μ = some (am_up μ (1 + 2 * s) 2 x) := by
  match s, hs with
  | 0, _ => exact am_pv_f rfl rfl
  | 1, _ => exact am_pv_f rfl rfl
  | 2, _ => exact am_pv_f rfl rfl
  | n + 3, hs => omega
theorem gv_T_3 {s : Nat} (hs : s < 3) (μ : am_M) : am_gv ShX 7 3 (vR (1 + 2 * s)) μ = some (vI (μ (1 + 2 * s) 3)) := by
  match s, hs with
  | 0, _ => exact rfl
  | 1, _ => exact rfl
  | 2, _ => exact rfl
  | n + 3, hs => omega
theorem pv_T_3 {s : Nat} (hs : s < 3) (x : Int32) (μ : am_M) : am_pv ShX 7 3 false (vR (1 + 2 * s)) (vI x) μ = some (am_up μ (1 + 2 * s) 3 x) := by
  match s, hs with
  | 0, _ => exact am_pv_f rfl rfl
  | 1, _ => exact am_pv_f rfl rfl
  | 2, _ => exact am_pv_f rfl rfl
  | n + 3, hs => omega
theorem lv_T_0 {s i : Nat} (hs : s < 3) (h : i < 71) (μ : am_M) : am_lv ShX (vR (2 + 2 * s)) (vI (nI i)) μ = some (vI (μ (2 + 2 * s) i)) := by
  match s, hs with
  | 0, _ => exact am_lv_i rfl h (by decide)
  | 1, _ => exact am_lv_i rfl h (by decide)
  | 2, _ => exact am_lv_i rfl h (by decide)
  | n + 3, hs => omega
theorem wv_T_0 {s i : Nat} (hs : s < 3) (h : i < 71) (x : Int32) (μ : am_M) : am_wv ShX (vR (2 + 2 * s)) (vI (nI i)) (vI x) μ = some (am_up μ (2 + 2 * s) i x) := by
  match s, hs with
  | 0, _ => exact am_wv_i rfl h (by decide)
  | 1, _ => exact am_wv_i rfl h (by decide)
  | 2, _ => exact am_wv_i rfl h (by decide)
  | n + 3, hs => omega
theorem ck_H {s : Nat} (hs : s < 8) : am_ck ShX 3 (vR (27 + 3 * s)) = true := by
  match s, hs with
  | 0, _ => exact rfl
  | 1, _ => exact rfl
  | 2, _ => exact rfl
  | 3, _ => exact rfl
  | 4, _ => exact rfl
  | 5, _ => exact rfl
  | 6, _ => exact rfl
  | 7, _ => exact rfl
  | n + 8, hs => omega
theorem gv_H_0 {s : Nat} (hs : s < 8) (μ : am_M) : am_gv ShX 3 0 (vR (27 + 3 * s)) μ = some (vR (28 + 3 * s)) := by
  match s, hs with
  | 0, _ => exact rfl
  | 1, _ => exact rfl
  | 2, _ => exact rfl
  | 3, _ => exact rfl
  | 4, _ => exact rfl
  | 5, _ => exact rfl
  | 6, _ => exact rfl
  | 7, _ => exact rfl
  | n + 8, hs => omega
theorem gv_H_1 {s : Nat} (hs : s < 8) (μ : am_M) : am_gv ShX 3 1 (vR (27 + 3 * s)) μ = some (vR (29 + 3 * s)) := by
  match s, hs with
  | 0, _ => exact rfl
  | 1, _ => exact rfl
  | 2, _ => exact rfl
  | 3, _ => exact rfl
  | 4, _ => exact rfl
  | 5, _ => exact rfl
  | 6, _ => exact rfl
  | 7, _ => exact rfl
  | n + 8, hs => omega
theorem gv_H_2 {s : Nat} (hs : s < 8) (μ : am_M) : am_gv ShX 3 2 (vR (27 + 3 * s)) μ = some (vI (μ (27 + 3 * s) 2)) := by
  match s, hs with
  | 0, _ => exact rfl
  | 1, _ => exact rfl
  | 2, _ => exact rfl
  | 3, _ => exact rfl
  | 4, _ => exact rfl
  | 5, _ => exact rfl
  | 6, _ => exact rfl
  | 7, _ => exact rfl
  | n + 8, hs => omega
theorem pv_H_2 {s : Nat} (hs : s < 8) (x : Int32) (μ : am_M) : am_pv ShX 3 2 false (vR (27 + 3 * s)) (vI x) μ = some (am_up μ (27 + 3 * s) 2 x) := by
  match s, hs with
  | 0, _ => exact am_pv_f rfl rfl
  | 1, _ => exact am_pv_f rfl rfl
  | 2, _ => exact am_pv_f rfl rfl
  | 3, _ => exact am_pv_f rfl rfl
  | 4, _ => exact am_pv_f rfl rfl
  | 5, _ => exact am_pv_f rfl rfl
  | 6, _ => exact am_pv_f rfl rfl
  | 7, _ => exact am_pv_f rfl rfl
  | n + 8, hs => omega
theorem gv_H_3 {s : Nat} (hs : s < 8) (μ : am_M) : am_gv ShX 3 3 (vR (27 + 3 * s)) μ = some (vI (μ (27 + 3 * s) 3)) := by
  match s, hs with
  | 0, _ => exact rfl
  | 1, _ => exact rfl
  | 2, _ => exact rfl
  | 3, _ => exact rfl
  | 4, _ => exact rfl
  | 5, _ => exact rfl
  | 6, _ => exact rfl
  | 7, _ => exact rfl
  | n + 8, hs => omega
theorem pv_H_3 {s : Nat} (hs : s < 8) (x : Int32) (μ : am_M) : am_pv ShX 3 3 false (vR (27 + 3 * s)) (vI x) μ = some (am_up μ (27 + 3 * s) 3 x) := by
  match s, hs with
  | 0, _ => exact am_pv_f rfl rfl
  | 1, _ => exact am_pv_f rfl rfl
  | 2, _ => exact am_pv_f rfl rfl
  | 3, _ => exact am_pv_f rfl rfl
  | 4, _ => exact am_pv_f rfl rfl
  | 5, _ => exact am_pv_f rfl rfl
  | 6, _ => exact am_pv_f rfl rfl
  | 7, _ => exact am_pv_f rfl rfl
  | n + 8, hs => omega
theorem gv_H_4 {s : Nat} (hs : s < 8) (μ : am_M) : am_gv ShX 3 4 (vR (27 + 3 * s)) μ = some (vI (μ (27 + 3 * s) 4)) := by
  match s, hs with
  | 0, _ => exact rfl
  | 1, _ => exact rfl
  | 2, _ => exact rfl
  | 3, _ => exact rfl
  | 4, _ => exact rfl
  | 5, _ => exact rfl
  | 6, _ => exact rfl
  | 7, _ => exact rfl
  | n + 8, hs => omega
theorem pv_H_4 {s : Nat} (hs : s < 8) {x : Int32} (h : x = 0 ∨ x = 1) (μ : am_M) : am_pv ShX 3 4 true (vR (27 + 3 * s)) (vI x) μ = some (am_up μ (27 + 3 * s) 4 x) := by
  match s, hs with
  | 0, _ => exact am_pv_t rfl rfl h
  | 1, _ => exact am_pv_t rfl rfl h
  | 2, _ => exact am_pv_t rfl rfl h
  | 3, _ => exact am_pv_t rfl rfl h
  | 4, _ => exact am_pv_t rfl rfl h
  | 5, _ => exact am_pv_t rfl rfl h
  | 6, _ => exact am_pv_t rfl rfl h
  | 7, _ => exact am_pv_t rfl rfl h
  | n + 8, hs => omega
theorem lv_H_0 {s i : Nat} (hs : s < 8) (h : i < 20) (μ : am_M) : am_lv ShX (vR (28 + 3 * s)) (vI (nI i)) μ = some (vI (μ (28 + 3 * s) i)) := by
  match s, hs with
  | 0, _ => exact am_lv_i rfl h (by decide)
  | 1, _ => exact am_lv_i rfl h (by decide)
  | 2, _ => exact am_lv_i rfl h (by decide)
  | 3, _ => exact am_lv_i rfl h (by decide)
  | 4, _ => exact am_lv_i rfl h (by decide)
  | 5, _ => exact am_lv_i rfl h (by decide)
  | 6, _ => exact am_lv_i rfl h (by decide)
  | 7, _ => exact am_lv_i rfl h (by decide)
  | n + 8, hs => omega
theorem wv_H_0 {s i : Nat} (hs : s < 8) (h : i < 20) (x : Int32) (μ : am_M) : am_wv ShX (vR (28 + 3 * s)) (vI (nI i)) (vI x) μ = some (am_up μ (28 + 3 * s) i x) := by
  match s, hs with
  | 0, _ => exact am_wv_i rfl h (by decide)
  | 1, _ => exact am_wv_i rfl h (by decide)
  | 2, _ => exact am_wv_i rfl h (by decide)
  | 3, _ => exact am_wv_i rfl h (by decide)
  | 4, _ => exact am_wv_i rfl h (by decide)
  | 5, _ => exact am_wv_i rfl h (by decide)
  | 6, _ => exact am_wv_i rfl h (by decide)
  | 7, _ => exact am_wv_i rfl h (by decide)
  | n + 8, hs => omega
theorem lv_H_1 {s i : Nat} (hs : s < 8) (h : i < 20) (μ : am_M) : am_lv ShX (vR (29 + 3 * s)) (vI (nI i)) μ = some (vI (μ (29 + 3 * s) i)) := by
  match s, hs with
  | 0, _ => exact am_lv_i rfl h (by decide)
  | 1, _ => exact am_lv_i rfl h (by decide)
  | 2, _ => exact am_lv_i rfl h (by decide)
  | 3, _ => exact am_lv_i rfl h (by decide)
  | 4, _ => exact am_lv_i rfl h (by decide)
  | 5, _ => exact am_lv_i rfl h (by decide)
  | 6, _ => exact am_lv_i rfl h (by decide)
  | 7, _ => exact am_lv_i rfl h (by decide)
  | n + 8, hs => omega
theorem wv_H_1 {s i : Nat} (hs : s < 8) (h : i < 20) (x : Int32) (μ : am_M) : am_wv ShX (vR (29 + 3 * s)) (vI (nI i)) (vI x) μ = some (am_up μ (29 + 3 * s) i x) := by
  match s, hs with
  | 0, _ => exact am_wv_i rfl h (by decide)
  | 1, _ => exact am_wv_i rfl h (by decide)
  | 2, _ => exact am_wv_i rfl h (by decide)
  | 3, _ => exact am_wv_i rfl h (by decide)
  | 4, _ => exact am_wv_i rfl h (by decide)
  | 5, _ => exact am_wv_i rfl h (by decide)
  | 6, _ => exact am_wv_i rfl h (by decide)
  | 7, _ => exact am_wv_i rfl h (by decide)
  | n + 8, hs => omega
theorem ck_G {s : Nat} (hs : s < 8) : am_ck ShX 3 (vR (53 + 3 * s)) = true := by
  match s, hs with
  | 0, _ => exact rfl
  | 1, _ => exact rfl
  | 2, _ => exact rfl
  | 3, _ => exact rfl
  | 4, _ => exact rfl
  | 5, _ => exact rfl
  | 6, _ => exact rfl
  | 7, _ => exact rfl
  | n + 8, hs => omega
theorem gv_G_0 {s : Nat} (hs : s < 8) (μ : am_M) : am_gv ShX 3 0 (vR (53 + 3 * s)) μ = some (vR (54 + 3 * s)) := by
  match s, hs with
  | 0, _ => exact rfl
  | 1, _ => exact rfl
  | 2, _ => exact rfl
  | 3, _ => exact rfl
  | 4, _ => exact rfl
  | 5, _ => exact rfl
  | 6, _ => exact rfl
  | 7, _ => exact rfl
  | n + 8, hs => omega
theorem gv_G_1 {s : Nat} (hs : s < 8) (μ : am_M) : am_gv ShX 3 1 (vR (53 + 3 * s)) μ = some (vR (55 + 3 * s)) := by
  match s, hs with
  | 0, _ => exact rfl
  | 1, _ => exact rfl
  | 2, _ => exact rfl
  | 3, _ => exact rfl
  | 4, _ => exact rfl
  | 5, _ => exact rfl
  | 6, _ => exact rfl
  | 7, _ => exact rfl
  | n + 8, hs => omega
theorem gv_G_2 {s : Nat} (hs : s < 8) (μ : am_M) : am_gv ShX 3 2 (vR (53 + 3 * s)) μ = some (vI (μ (53 + 3 * s) 2)) := by
  match s, hs with
  | 0, _ => exact rfl
  | 1, _ => exact rfl
  | 2, _ => exact rfl
  | 3, _ => exact rfl
  | 4, _ => exact rfl
  | 5, _ => exact rfl
  | 6, _ => exact rfl
  | 7, _ => exact rfl
  | n + 8, hs => omega
theorem pv_G_2 {s : Nat} (hs : s < 8) (x : Int32) (μ : am_M) : am_pv ShX 3 2 false (vR (53 + 3 * s)) (vI x) μ = some (am_up μ (53 + 3 * s) 2 x) := by
  match s, hs with
  | 0, _ => exact am_pv_f rfl rfl
  | 1, _ => exact am_pv_f rfl rfl
  | 2, _ => exact am_pv_f rfl rfl
  | 3, _ => exact am_pv_f rfl rfl
  | 4, _ => exact am_pv_f rfl rfl
  | 5, _ => exact am_pv_f rfl rfl
  | 6, _ => exact am_pv_f rfl rfl
  | 7, _ => exact am_pv_f rfl rfl
  | n + 8, hs => omega
theorem gv_G_3 {s : Nat} (hs : s < 8) (μ : am_M) : am_gv ShX 3 3 (vR (53 + 3 * s)) μ = some (vI (μ (53 + 3 * s) 3)) := by
  match s, hs with
  | 0, _ => exact rfl
  | 1, _ => exact rfl
  | 2, _ => exact rfl
  | 3, _ => exact rfl
  | 4, _ => exact rfl
  | 5, _ => exact rfl
  | 6, _ => exact rfl
  | 7, _ => exact rfl
  | n + 8, hs => omega
theorem pv_G_3 {s : Nat} (hs : s < 8) (x : Int32) (μ : am_M) : am_pv ShX 3 3 false (vR (53 + 3 * s)) (vI x) μ = some (am_up μ (53 + 3 * s) 3 x) := by
  match s, hs with
  | 0, _ => exact am_pv_f rfl rfl
  | 1, _ => exact am_pv_f rfl rfl
  | 2, _ => exact am_pv_f rfl rfl
  | 3, _ => exact am_pv_f rfl rfl
  | 4, _ => exact am_pv_f rfl rfl
  | 5, _ => exact am_pv_f rfl rfl
  | 6, _ => exact am_pv_f rfl rfl
  | 7, _ => exact am_pv_f rfl rfl
  | n + 8, hs => omega
theorem gv_G_4 {s : Nat} (hs : s < 8) (μ : am_M) : am_gv ShX 3 4 (vR (53 + 3 * s)) μ = some (vI (μ (53 + 3 * s) 4)) := by
  match s, hs with
  | 0, _ => exact rfl
  | 1, _ => exact rfl
  | 2, _ => exact rfl
  | 3, _ => exact rfl
  | 4, _ => exact rfl
  | 5, _ => exact rfl
  | 6, _ => exact rfl
  | 7, _ => exact rfl
  | n + 8, hs => omega
theorem pv_G_4 {s : Nat} (hs : s < 8) {x : Int32} (h : x = 0 ∨ x = 1) (μ : am_M) : am_pv ShX 3 4 true (vR (53 + 3 * s)) (vI x) μ = some (am_up μ (53 + 3 * s) 4 x) := by
  match s, hs with
  | 0, _ => exact am_pv_t rfl rfl h
  | 1, _ => exact am_pv_t rfl rfl h
  | 2, _ => exact am_pv_t rfl rfl h
  | 3, _ => exact am_pv_t rfl rfl h
  | 4, _ => exact am_pv_t rfl rfl h
  | 5, _ => exact am_pv_t rfl rfl h
  | 6, _ => exact am_pv_t rfl rfl h
  | 7, _ => exact am_pv_t rfl rfl h
  | n + 8, hs => omega
theorem lv_G_0 {s i : Nat} (hs : s < 8) (h : i < 20) (μ : am_M) : am_lv ShX (vR (54 + 3 * s)) (vI (nI i)) μ = some (vI (μ (54 + 3 * s) i)) := by
  match s, hs with
  | 0, _ => exact am_lv_i rfl h (by decide)
  | 1, _ => exact am_lv_i rfl h (by decide)
  | 2, _ => exact am_lv_i rfl h (by decide)
  | 3, _ => exact am_lv_i rfl h (by decide)
  | 4, _ => exact am_lv_i rfl h (by decide)
  | 5, _ => exact am_lv_i rfl h (by decide)
  | 6, _ => exact am_lv_i rfl h (by decide)
  | 7, _ => exact am_lv_i rfl h (by decide)
  | n + 8, hs => omega
theorem wv_G_0 {s i : Nat} (hs : s < 8) (h : i < 20) (x : Int32) (μ : am_M) : am_wv ShX (vR (54 + 3 * s)) (vI (nI i)) (vI x) μ = some (am_up μ (54 + 3 * s) i x) := by
  match s, hs with
  | 0, _ => exact am_wv_i rfl h (by decide)
  | 1, _ => exact am_wv_i rfl h (by decide)
  | 2, _ => exact am_wv_i rfl h (by decide)
  | 3, _ => exact am_wv_i rfl h (by decide)
  | 4, _ => exact am_wv_i rfl h (by decide)
  | 5, _ => exact am_wv_i rfl h (by decide)
  | 6, _ => exact am_wv_i rfl h (by decide)
  | 7, _ => exact am_wv_i rfl h (by decide)
  | n + 8, hs => omega
theorem lv_G_1 {s i : Nat} (hs : s < 8) (h : i < 20) (μ : am_M) : am_lv ShX (vR (55 + 3 * s)) (vI (nI i)) μ = some (vI (μ (55 + 3 * s) i)) := by
  match s, hs with
  | 0, _ => exact am_lv_i rfl h (by decide)
  | 1, _ => exact am_lv_i rfl h (by decide)
  | 2, _ => exact am_lv_i rfl h (by decide)
  | 3, _ => exact am_lv_i rfl h (by decide)
  | 4, _ => exact am_lv_i rfl h (by decide)
  | 5, _ => exact am_lv_i rfl h (by decide)
  | 6, _ => exact am_lv_i rfl h (by decide)
  | 7, _ => exact am_lv_i rfl h (by decide)
  | n + 8, hs => omega
theorem wv_G_1 {s i : Nat} (hs : s < 8) (h : i < 20) (x : Int32) (μ : am_M) : am_wv ShX (vR (55 + 3 * s)) (vI (nI i)) (vI x) μ = some (am_up μ (55 + 3 * s) i x) := by
  match s, hs with
  | 0, _ => exact am_wv_i rfl h (by decide)
  | 1, _ => exact am_wv_i rfl h (by decide)
  | 2, _ => exact am_wv_i rfl h (by decide)
  | 3, _ => exact am_wv_i rfl h (by decide)
  | 4, _ => exact am_wv_i rfl h (by decide)
  | 5, _ => exact am_wv_i rfl h (by decide)
  | 6, _ => exact am_wv_i rfl h (by decide)
  | 7, _ => exact am_wv_i rfl h (by decide)
  | n + 8, hs => omega
theorem ck_S {s : Nat} (hs : s < 4) : am_ck ShX 4 (vR (94 + 2 * s)) = true := by
  match s, hs with
  | 0, _ => exact rfl
  | 1, _ => exact rfl
  | 2, _ => exact rfl
  | 3, _ => exact rfl
  | n + 4, hs => omega
theorem gv_S_0 {s : Nat} (hs : s < 4) (μ : am_M) : am_gv ShX 4 0 (vR (94 + 2 * s)) μ = some (vI (μ (94 + 2 * s) 0)) := by
  match s, hs with
  | 0, _ => exact rfl
  | 1, _ => exact rfl
  | 2, _ => exact rfl
  | 3, _ => exact rfl
  | n + 4, hs => omega
theorem pv_S_0 {s : Nat} (hs : s < 4) {x : Int32} (h : x = 0 ∨ x = 1) (μ : am_M) : am_pv ShX 4 0 true (vR (94 + 2 * s)) (vI x) μ = some (am_up μ (94 + 2 * s) 0 x) := by
  match s, hs with
  | 0, _ => exact am_pv_t rfl rfl h
  | 1, _ => exact am_pv_t rfl rfl h
  | 2, _ => exact am_pv_t rfl rfl h
  | 3, _ => exact am_pv_t rfl rfl h
  | n + 4, hs => omega
theorem gv_S_1 {s : Nat} (hs : s < 4) (μ : am_M) : am_gv ShX 4 1 (vR (94 + 2 * s)) μ = some (vI (μ (94 + 2 * s) 1)) := by
  match s, hs with
  | 0, _ => exact rfl
  | 1, _ => exact rfl
  | 2, _ => exact rfl
  | 3, _ => exact rfl
  | n + 4, hs => omega
theorem pv_S_1 {s : Nat} (hs : s < 4) (x : Int32) (μ : am_M) : am_pv ShX 4 1 false (vR (94 + 2 * s)) (vI x) μ = some (am_up μ (94 + 2 * s) 1 x) := by
  match s, hs with
  | 0, _ => exact am_pv_f rfl rfl
  | 1, _ => exact am_pv_f rfl rfl
  | 2, _ => exact am_pv_f rfl rfl
  | 3, _ => exact am_pv_f rfl rfl
  | n + 4, hs => omega
theorem gv_S_2 {s : Nat} (hs : s < 4) (μ : am_M) : am_gv ShX 4 2 (vR (94 + 2 * s)) μ = some (vI (μ (94 + 2 * s) 2)) := by
  match s, hs with
  | 0, _ => exact rfl
  | 1, _ => exact rfl
  | 2, _ => exact rfl
  | 3, _ => exact rfl
  | n + 4, hs => omega
theorem pv_S_2 {s : Nat} (hs : s < 4) (x : Int32) (μ : am_M) : am_pv ShX 4 2 false (vR (94 + 2 * s)) (vI x) μ = some (am_up μ (94 + 2 * s) 2 x) := by
  match s, hs with
  | 0, _ => exact am_pv_f rfl rfl
  | 1, _ => exact am_pv_f rfl rfl
  | 2, _ => exact am_pv_f rfl rfl
  | 3, _ => exact am_pv_f rfl rfl
  | n + 4, hs => omega
theorem gv_S_3 {s : Nat} (hs : s < 4) (μ : am_M) : am_gv ShX 4 3 (vR (94 + 2 * s)) μ = some (vR (95 + 2 * s)) := by
  match s, hs with
  | 0, _ => exact rfl
  | 1, _ => exact rfl
  | 2, _ => exact rfl
  | 3, _ => exact rfl
  | n + 4, hs => omega
theorem lv_S_3 {s i : Nat} (hs : s < 4) (h : i < 60) (μ : am_M) : am_lv ShX (vR (95 + 2 * s)) (vI (nI i)) μ = some (vI (μ (95 + 2 * s) i)) := by
  match s, hs with
  | 0, _ => exact am_lv_i rfl h (by decide)
  | 1, _ => exact am_lv_i rfl h (by decide)
  | 2, _ => exact am_lv_i rfl h (by decide)
  | 3, _ => exact am_lv_i rfl h (by decide)
  | n + 4, hs => omega
theorem wv_S_3 {s i : Nat} (hs : s < 4) (h : i < 60) (x : Int32) (μ : am_M) : am_wv ShX (vR (95 + 2 * s)) (vI (nI i)) (vI x) μ = some (am_up μ (95 + 2 * s) i x) := by
  match s, hs with
  | 0, _ => exact am_wv_i rfl h (by decide)
  | 1, _ => exact am_wv_i rfl h (by decide)
  | 2, _ => exact am_wv_i rfl h (by decide)
  | 3, _ => exact am_wv_i rfl h (by decide)
  | n + 4, hs => omega
theorem qv_H {s : Nat} (hs : s < 8) (μ : am_M) : am_qv ShX (vR 26) (vI (nI s)) μ = some (vR (27 + 3 * s)) := by
  match s, hs with
  | 0, _ => rfl
  | 1, _ => rfl
  | 2, _ => rfl
  | 3, _ => rfl
  | 4, _ => rfl
  | 5, _ => rfl
  | 6, _ => rfl
  | 7, _ => rfl
  | n + 8, hs => omega
theorem qv_G {s : Nat} (hs : s < 8) (μ : am_M) : am_qv ShX (vR 52) (vI (nI s)) μ = some (vR (53 + 3 * s)) := by
  match s, hs with
  | 0, _ => rfl
  | 1, _ => rfl
  | 2, _ => rfl
  | 3, _ => rfl
  | 4, _ => rfl
  | 5, _ => rfl
  | 6, _ => rfl
  | 7, _ => rfl
  | n + 8, hs => omega
theorem qv_S {s : Nat} (hs : s < 4) (μ : am_M) : am_qv ShX (vR 93) (vI (nI s)) μ = some (vR (94 + 2 * s)) := by
  match s, hs with
  | 0, _ => rfl
  | 1, _ => rfl
  | 2, _ => rfl
  | 3, _ => rfl
  | n + 4, hs => omega
