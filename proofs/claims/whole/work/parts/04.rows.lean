/-! rows that read and write the memory -/
theorem ik_ldcw {S : am_S} (i : Nat) (v : Int32) (q : Nat) : am_IK S (.ldc_w i, 3, some (q, .constant S.2.2.2.2 i v)) (o_k (vI v)) := by
  rintro ⟨p, l, e, R, s, m, args, below, meth, c, Q, D, cs, ad, A, nc, ns⟩ hO pc hf env st μ w hw k H locs ls hP hD hS hl
  cases hw
  exact lv_ldcw hO.1 hO.2.1 hO.2.2.2.1 (hO.2.2.2.2.1.1 _ (am_word (hf.2.1 _ rfl) rfl)) hf.1 (k H locs ls hP hD hS hl)
def o_iu (f : Int32 → Int32) : AV → am_M → Option AV := fun a _ => match a with
  | .inl x => some (vI (f x))
  | _ => none
def o_i2l : AV → am_M → Option AV := fun a _ => match a with
  | .inl x => some (vL x.toInt64)
  | _ => none
theorem o_iu_ok {f : Int32 → Int32} {a w : AV} {μ : am_M} (h : o_iu f a μ = some w) : ∃ x, a = vI x ∧ w = vI (f x) := by
  unfold o_iu at h
  split at h
  · cases h
    exact ⟨_, rfl, rfl⟩
  · cases h
theorem iu_ineg {S : am_S} : am_IU S (.ineg, 1, none) (o_iu (fun x => -x)) := by
  rintro ⟨p, l, e, R, s, m, args, below, meth, c, Q, D, cs, ad, A, nc, ns⟩ hO pc hf env st μ v w hw k H locs ls hP hD hS hl
  obtain ⟨x, rfl, rfl⟩ := o_iu_ok hw
  exact lv_ineg hO.1 hO.2.1 hf.1 (k H locs ls hP hD hS hl)
theorem iu_i2b {S : am_S} : am_IU S (.i2b, 1, none) (o_iu (fun x => x.toInt8.toInt32)) := by
  rintro ⟨p, l, e, R, s, m, args, below, meth, c, Q, D, cs, ad, A, nc, ns⟩ hO pc hf env st μ v w hw k H locs ls hP hD hS hl
  obtain ⟨x, rfl, rfl⟩ := o_iu_ok hw
  exact lv_i2b hO.1 hO.2.1 hf.1 rfl (k H locs ls hP hD hS hl)
theorem iu_i2s {S : am_S} : am_IU S (.i2s, 1, none) (o_iu (fun x => x.toInt16.toInt32)) := by
  rintro ⟨p, l, e, R, s, m, args, below, meth, c, Q, D, cs, ad, A, nc, ns⟩ hO pc hf env st μ v w hw k H locs ls hP hD hS hl
  obtain ⟨x, rfl, rfl⟩ := o_iu_ok hw
  exact lv_i2s hO.1 hO.2.1 hf.1 rfl (k H locs ls hP hD hS hl)
theorem iu_i2l {S : am_S} : am_IU S (.i2l, 1, none) o_i2l := by
  rintro ⟨p, l, e, R, s, m, args, below, meth, c, Q, D, cs, ad, A, nc, ns⟩ hO pc hf env st μ v w hw k H locs ls hP hD hS hl
  unfold o_i2l at hw
  split at hw
  · cases hw
    exact lv_i2l hO.1 hO.2.1 hf.1 rfl (k H locs ls hP hD hS hl)
  · cases hw
/-! fields -/
theorem am_uw : (vwCl.all fun q => (u_ws q.1 q.2.1 q.2.2).all fun w => goodWord w && decide (w ∈ lw_tbl)) = true := by decide +kernel
theorem am_uwi {ci : Nat} {q : vw_C} (h : vwCl[ci]? = some q) : ∀ w ∈ u_ws q.1 q.2.1 q.2.2, w ∈ am_tb := by
  intro w hw
  have h1 := List.all_eq_true.mp (List.all_eq_true.mp am_uw q (List.mem_of_getElem? h)) w hw
  simp only [Bool.and_eq_true, decide_eq_true_eq] at h1
  exact List.mem_filter.mpr ⟨h1.2, h1.1⟩
def am_tyl : List (Nat → FieldType) := [tyX0, tyX1, tyX2, tyX3, tyX4, tyX5, tyX6, tyX7, tyX8, tyX9, tyX10, tyX11]
def am_cn (ci : Nat) : vw_C := (vwCl[ci]?).getD (RX0, TX0, 0)
/-- the word of a field: class of the code, number in its pool, class of the object, which field -/
def am_fl (own : String) (idx ci j : Nat) : Jvm.Cond := .fieldLink own idx ((am_cn ci).2.1 j).1 ((am_cn ci).2.1 j).2.1 ((am_cn ci).2.1 j).2.2.1
def am_gv (Sh : List am_SC) (ci j : Nat) (v : AV) (μ : am_M) : Option AV := match v with
  | .inr (.inr (.inl r)) => match Sh[r]? with
    | some (.inr (.inr (c, sl))) => if c = ci then (match sl[j]? with
      | some none => some (vI (μ r j))
      | some (some r') => some (vR r')
      | none => none) else none
    | _ => none
  | _ => none
theorem am_gv_ok {Sh : List am_SC} {ci j : Nat} {v w : AV} {μ : am_M} (h : am_gv Sh ci j v μ = some w) : ∃ r sl, v = vR r ∧ Sh[r]? = some (.inr (.inr (ci, sl))) ∧ ((sl[j]? = some none ∧ w = vI (μ r j)) ∨ ∃ r', sl[j]? = some (some r') ∧ w = vR r') := by
  unfold am_gv at h
  split at h
  · rename_i r
    split at h
    · rename_i c sl hs
      split at h
      · rename_i hc
        subst hc
        refine ⟨r, sl, rfl, hs, ?_⟩
        split at h
        · rename_i hj
          cases h
          exact Or.inl ⟨hj, rfl⟩
        · rename_i r' hj
          cases h
          exact Or.inr ⟨r', hj, rfl⟩
        · cases h
      · cases h
    · cases h
  · cases h
theorem am_gv_fs {Sh : List am_SC} {ci j : Nat} {v w : AV} {μ : am_M} (h : am_gv Sh ci j v μ = some w) (ad : Nat → Nat) (cs : Nat → ClassId) : ∃ r fs, v = vR r ∧ (am_wl Sh ad cs μ)[r]? = some (ad r, .inr (ci, fs)) ∧ fs[j]? = some (am_cv ad w) := by
  obtain ⟨r, sl, rfl, hs, h1⟩ := am_gv_ok h
  refine ⟨r, sl.mapIdx (am_sv ad (μ r)), rfl, am_wl_get hs, ?_⟩
  rw [List.getElem?_mapIdx]
  rcases h1 with ⟨hj, rfl⟩ | ⟨r', hj, rfl⟩
  · rw [hj]; rfl
  · rw [hj]; rfl
theorem iu_get {S : am_S} (idx ci j q : Nat) (hc : vwCl[ci]? = some (am_cn ci)) (hj : j < (am_cn ci).2.2) : am_IU S (.getfield idx, 3, some (q, am_fl S.2.2.2.2 idx ci j)) (am_gv S.1 ci j) := by
  rintro ⟨p, l, e, R, s, m, args, below, meth, c, Q, D, cs, ad, A, nc, ns⟩ hO pc hf env st μ v w hw k H locs ls hP hD hS hl
  obtain ⟨r, fs, rfl, he, hfs⟩ := am_gv_fs hw ad cs
  exact va_get (C := (am_cn ci).1) (T := (am_cn ci).2.1) (N := (am_cn ci).2.2) hO.1 hO.2.1 hO.2.2.2.2.1.1 (am_uwi hc) hO.2.2.2.1 hO.2.2.2.2.2.1 hP r he hc j hj (hO.2.2.2.2.1.1 _ (am_word (hf.2.1 _ rfl) rfl)) (fun _ h9 => h9) hfs hf.1 (k H locs ls hP hD hS hl)
/-! rows -/
def am_lv (Sh : List am_SC) (a b : AV) (μ : am_M) : Option AV := match a, b with
  | .inr (.inr (.inl r)), .inl i => match Sh[r]? with
    | some (.inl n) => if i < 0 ∨ n ≤ i.toNatClampNeg then none else some (vI (μ r i.toNatClampNeg))
    | _ => none
  | _, _ => none
theorem am_lv_ok {Sh : List am_SC} {a b w : AV} {μ : am_M} (h : am_lv Sh a b μ = some w) : ∃ r n i, a = vR r ∧ b = vI i ∧ Sh[r]? = some (.inl n) ∧ vp_in i n ∧ w = vI (μ r i.toNatClampNeg) := by
  unfold am_lv at h
  split at h
  · rename_i r i
    split at h
    · rename_i n hs
      split at h
      · cases h
      · rename_i hi
        cases h
        exact ⟨r, n, i, rfl, rfl, hs, hi, rfl⟩
    · cases h
  · cases h
theorem ib_iaload {S : am_S} : am_IB S (.iaload, 1, none) (am_lv S.1) := by
  rintro ⟨p, l, e, R, s, m, args, below, meth, c, Q, D, cs, ad, A, nc, ns⟩ hO pc hf env st μ v1 v2 w hw k H locs ls hP hD hS hl
  obtain ⟨r, n, i, rfl, rfl, hs, hi, rfl⟩ := am_lv_ok hw
  exact va_iald (tys := am_ty cs) hO.1 hO.2.1 hO.2.2.2.2.2.1 hP r 0 (am_wl_get hs) rfl hi hf.1 (k H locs ls hP hD hS hl)
def am_qv (Sh : List am_SC) (a b : AV) (_ : am_M) : Option AV := match a, b with
  | .inr (.inr (.inl r)), .inl i => match Sh[r]? with
    | some (.inr (.inl (t, rs))) => if t = 1 ∨ t = 2 then (if i < 0 ∨ rs.length ≤ i.toNatClampNeg then none else (rs[i.toNatClampNeg]?).map vR) else none
    | _ => none
  | _, _ => none
theorem ib_aaload {S : am_S} : am_IB S (.aaload, 1, none) (am_qv S.1) := by
  rintro ⟨p, l, e, R, s, m, args, below, meth, c, Q, D, cs, ad, A, nc, ns⟩ hO pc hf env st μ v1 v2 w hw k H locs ls hP hD hS hl
  unfold am_qv at hw
  split at hw
  · rename_i r i
    split at hw
    · rename_i t rs hs
      split at hw
      · rename_i ht
        split at hw
        · cases hw
        · rename_i hi
          cases hr : rs[i.toNatClampNeg]? with
          | none => rw [hr] at hw; cases hw
          | some x =>
            rw [hr] at hw
            cases hw
            have k1 := k H locs ls hP hD hS hl
            have hx : va_rf ((rs[i.toNatClampNeg]?).map ad) = am_cv ad (vR x) := by rw [hr]; rfl
            rcases ht with rfl | rfl
            · refine va_aldq (tys := am_ty cs) (C := "WrackDeeds$Hanging") hO.1 hO.2.1 hO.2.2.2.2.2.1 hP r 1 (am_wl_get hs) rfl hi hf.1 ?_
              rw [hx]
              exact k1
            · refine va_aldq (tys := am_ty cs) (C := "WrackDeeds$Sheet") hO.1 hO.2.1 hO.2.2.2.2.2.1 hP r 2 (am_wl_get hs) rfl hi hf.1 ?_
              rw [hx]
              exact k1
      · cases hw
    · cases hw
  · cases hw
def am_nv (Sh : List am_SC) (a : AV) (_ : am_M) : Option AV := match a with
  | .inr (.inr (.inl r)) => match Sh[r]? with
    | some (.inl n) => some (vI (Int32.ofNat n))
    | _ => none
  | _ => none
theorem iu_alen {S : am_S} : am_IU S (.arraylength, 1, none) (am_nv S.1) := by
  rintro ⟨p, l, e, R, s, m, args, below, meth, c, Q, D, cs, ad, A, nc, ns⟩ hO pc hf env st μ v w hw k H locs ls hP hD hS hl
  unfold am_nv at hw
  split at hw
  · rename_i r
    split at hw
    · rename_i n hs
      cases hw
      exact va_alen (tys := am_ty cs) hO.1 hO.2.1 hO.2.2.2.2.2.1 hP r 0 (am_wl_get hs) (ty := .int) rfl rfl hf.1 (k H locs ls hP hD hS hl)
    · cases hw
  · cases hw
/-! stores into locals -/
def am_IT (S : am_S) (i : am_I) (op : List AV → AV → Option (List AV)) : Prop := ∀ (G : am_G), am_Ok S G → ∀ (pc : Nat), am_fit S.2.1 pc [i] → ∀ (env env' st : List AV) (μ : am_M) (v : AV), op env v = some env' → am_Wn S G (pc + i.2.1) env' st μ → am_Wn S G pc env (v :: st) μ
def o_si (nL i : Nat) : List AV → AV → Option (List AV) := fun env v => match v with
  | .inl x => if i ≤ env.length ∧ i < nL ∧ am_nl env i = true then some (am_se env i (vI x)) else none
  | _ => none
def o_sr (nL i : Nat) : List AV → AV → Option (List AV) := fun env v => match v with
  | .inr (.inr (.inl x)) => if i ≤ env.length ∧ i < nL ∧ am_nl env i = true then some (am_se env i (vR x)) else none
  | _ => none
def o_sl (nL i : Nat) : List AV → AV → Option (List AV) := fun env v => match v with
  | .inr (.inl x) => if i ≤ env.length ∧ i + 1 < nL ∧ am_nl env i = true then some (am_se (am_se env i (vL x)) (i + 1) vU) else none
  | _ => none
theorem o_si_ok {nL i : Nat} {env env' : List AV} {v : AV} (h : o_si nL i env v = some env') : ∃ x, v = vI x ∧ i ≤ env.length ∧ i < nL ∧ am_nl env i = true ∧ env' = am_se env i (vI x) := by
  unfold o_si at h
  split at h
  · split at h
    · rename_i x hc
      cases h
      exact ⟨x, rfl, hc.1, hc.2.1, hc.2.2, rfl⟩
    · cases h
  · cases h
theorem o_sr_ok {nL i : Nat} {env env' : List AV} {v : AV} (h : o_sr nL i env v = some env') : ∃ x, v = vR x ∧ i ≤ env.length ∧ i < nL ∧ am_nl env i = true ∧ env' = am_se env i (vR x) := by
  unfold o_sr at h
  split at h
  · split at h
    · rename_i x hc
      cases h
      exact ⟨x, rfl, hc.1, hc.2.1, hc.2.2, rfl⟩
    · cases h
  · cases h
theorem o_sl_ok {nL i : Nat} {env env' : List AV} {v : AV} (h : o_sl nL i env v = some env') : ∃ x, v = vL x ∧ i ≤ env.length ∧ i + 1 < nL ∧ am_nl env i = true ∧ env' = am_se (am_se env i (vL x)) (i + 1) vU := by
  unfold o_sl at h
  split at h
  · split at h
    · rename_i x hc
      cases h
      exact ⟨x, rfl, hc.1, hc.2.1, hc.2.2, rfl⟩
    · cases h
  · cases h
theorem it_istore_n {S : am_S} (n : Fin 4) : am_IT S (.istore_n n, 1, none) (o_si S.2.2.1 n) := by
  rintro ⟨p, l, e, R, s, m, args, below, meth, c, Q, D, cs, ad, A, nc, ns⟩ hO pc hf env env' st μ v hw k H locs ls hP hD hS hl
  obtain ⟨x, rfl, h1, h2, h3, rfl⟩ := o_si_ok hw
  exact lv_istore_n hO.1 hO.2.1 hf.1 rfl hl h2 rfl (fun ls' hl' => k H locs ls' hP hD hS (am_ag.set1 rfl h1 h3 hl'))
theorem it_istore {S : am_S} (n : Nat) : am_IT S (.istore n, 2, none) (o_si S.2.2.1 n) := by
  rintro ⟨p, l, e, R, s, m, args, below, meth, c, Q, D, cs, ad, A, nc, ns⟩ hO pc hf env env' st μ v hw k H locs ls hP hD hS hl
  obtain ⟨x, rfl, h1, h2, h3, rfl⟩ := o_si_ok hw
  exact lv_istore hO.1 hO.2.1 hf.1 hl h2 rfl (fun ls' hl' => k H locs ls' hP hD hS (am_ag.set1 rfl h1 h3 hl'))
theorem it_astore_n {S : am_S} (n : Fin 4) : am_IT S (.astore_n n, 1, none) (o_sr S.2.2.1 n) := by
  rintro ⟨p, l, e, R, s, m, args, below, meth, c, Q, D, cs, ad, A, nc, ns⟩ hO pc hf env env' st μ v hw k H locs ls hP hD hS hl
  obtain ⟨x, rfl, h1, h2, h3, rfl⟩ := o_sr_ok hw
  exact lv_astore_n hO.1 hO.2.1 hf.1 rfl hl h2 rfl (fun ls' hl' => k H locs ls' hP hD hS (am_ag.set1 rfl h1 h3 hl'))
theorem it_astore {S : am_S} (n : Nat) : am_IT S (.astore n, 2, none) (o_sr S.2.2.1 n) := by
  rintro ⟨p, l, e, R, s, m, args, below, meth, c, Q, D, cs, ad, A, nc, ns⟩ hO pc hf env env' st μ v hw k H locs ls hP hD hS hl
  obtain ⟨x, rfl, h1, h2, h3, rfl⟩ := o_sr_ok hw
  exact lv_astore hO.1 hO.2.1 hf.1 hl h2 rfl (fun ls' hl' => k H locs ls' hP hD hS (am_ag.set1 rfl h1 h3 hl'))
theorem it_lstore_n {S : am_S} (n : Fin 4) : am_IT S (.lstore_n n, 1, none) (o_sl S.2.2.1 n) := by
  rintro ⟨p, l, e, R, s, m, args, below, meth, c, Q, D, cs, ad, A, nc, ns⟩ hO pc hf env env' st μ v hw k H locs ls hP hD hS hl
  obtain ⟨x, rfl, h1, h2, h3, rfl⟩ := o_sl_ok hw
  exact lv_lstore_n hO.1 hO.2.1 hf.1 rfl hl h2 rfl (fun ls' hl' => k H locs ls' hP hD hS (am_ag.set2 h1 h3 hl'))
theorem it_lstore {S : am_S} (n : Nat) : am_IT S (.lstore n, 2, none) (o_sl S.2.2.1 n) := by
  rintro ⟨p, l, e, R, s, m, args, below, meth, c, Q, D, cs, ad, A, nc, ns⟩ hO pc hf env env' st μ v hw k H locs ls hP hD hS hl
  obtain ⟨x, rfl, h1, h2, h3, rfl⟩ := o_sl_ok hw
  exact lv_lstore hO.1 hO.2.1 hf.1 hl h2 rfl (fun ls' hl' => k H locs ls' hP hD hS (am_ag.set2 h1 h3 hl'))
/-- iinc -/
def o_inc (nL i : Nat) (d : Int32) : List AV → Option (List AV) := fun env => match env[i]? with
  | some (.inl x) => if i < nL ∧ am_nl env i = true then some (am_se env i (vI (x + d))) else none
  | _ => none
theorem it_iinc {S : am_S} (i : Nat) (n : Int) (d : Int32) (hd : Int32.ofInt n = d) {G : am_G} (hO : am_Ok S G) {pc : Nat} (hf : am_fit S.2.1 pc [(.iinc i n, 3, none)]) {env env' st : List AV} {μ : am_M} (hw : o_inc S.2.2.1 i d env = some env') (k : am_Wn S G (pc + 3) env' st μ) : am_Wn S G pc env st μ := by
  obtain ⟨p, l, e, R, s, m, args, below, meth, c, Q, D, cs, ad, A, nc, ns⟩ := G
  intro H locs ls hP hD hS hl
  unfold o_inc at hw
  split at hw
  · rename_i x hx
    split at hw
    · rename_i hc
      cases hw
      have hm : (i, Value.int x) ∈ am_ll ad env := am_ll_mem.mpr ⟨vI x, hx, rfl⟩
      obtain ⟨q, hq⟩ := List.getElem?_of_mem hm
      exact lv_iinc hO.1 hO.2.1 hf.1 hl hq (by rw [hd]) hc.1 rfl (fun ls' hl' => k H locs ls' hP hD hS (am_ag.set1 rfl (Nat.le_of_lt (List.getElem?_eq_some_iff.mp hx).1) hc.2 hl'))
    · cases hw
  · cases hw
