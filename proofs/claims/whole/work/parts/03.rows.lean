/-! A ROW AN INSTRUCTION, over am_Wn -/
/-- pushes: what is pushed, of the locals -/
def am_IK (S : am_S) (i : am_I) (op : List AV → Option AV) : Prop := ∀ (G : am_G), am_Ok S G → ∀ (pc : Nat), am_fit S.2.1 pc [i] → ∀ (env st : List AV) (μ : am_M) (w : AV), op env = some w → am_Wn S G (pc + i.2.1) env (w :: st) μ → am_Wn S G pc env st μ
/-- takes one, gives one -/
def am_IU (S : am_S) (i : am_I) (op : AV → am_M → Option AV) : Prop := ∀ (G : am_G), am_Ok S G → ∀ (pc : Nat), am_fit S.2.1 pc [i] → ∀ (env st : List AV) (μ : am_M) (v w : AV), op v μ = some w → am_Wn S G (pc + i.2.1) env (w :: st) μ → am_Wn S G pc env (v :: st) μ
/-- takes two, gives one -/
def am_IB (S : am_S) (i : am_I) (op : AV → AV → am_M → Option AV) : Prop := ∀ (G : am_G), am_Ok S G → ∀ (pc : Nat), am_fit S.2.1 pc [i] → ∀ (env st : List AV) (μ : am_M) (v1 v2 w : AV), op v1 v2 μ = some w → am_Wn S G (pc + i.2.1) env (w :: st) μ → am_Wn S G pc env (v2 :: v1 :: st) μ
def o_k (v : AV) : List AV → Option AV := fun _ => some v
def o_li (i : Nat) : List AV → Option AV := fun env => match env[i]? with
  | some (.inl x) => some (vI x)
  | _ => none
def o_ll (i : Nat) : List AV → Option AV := fun env => match env[i]? with
  | some (.inr (.inl x)) => some (vL x)
  | _ => none
def o_lr (i : Nat) : List AV → Option AV := fun env => match env[i]? with
  | some (.inr (.inr (.inl x))) => some (vR x)
  | _ => none
theorem o_li_ok {i : Nat} {env : List AV} {w : AV} (h : o_li i env = some w) : ∃ x, w = vI x ∧ env[i]? = some (vI x) := by
  unfold o_li at h
  split at h
  · rename_i x hx
    cases h
    exact ⟨x, rfl, hx⟩
  · cases h
theorem o_ll_ok {i : Nat} {env : List AV} {w : AV} (h : o_ll i env = some w) : ∃ x, w = vL x ∧ env[i]? = some (vL x) := by
  unfold o_ll at h
  split at h
  · rename_i x hx
    cases h
    exact ⟨x, rfl, hx⟩
  · cases h
theorem o_lr_ok {i : Nat} {env : List AV} {w : AV} (h : o_lr i env = some w) : ∃ x, w = vR x ∧ env[i]? = some (vR x) := by
  unfold o_lr at h
  split at h
  · rename_i x hx
    cases h
    exact ⟨x, rfl, hx⟩
  · cases h
theorem ik_iconst {S : am_S} (n : Int) (v : Int32) (hv : Int32.ofInt n = v) : am_IK S (.iconst n, 1, none) (o_k (vI v)) := by
  rintro ⟨p, l, e, R, s, m, args, below, meth, c, Q, D, cs, ad, A, nc, ns⟩ hO pc hf env st μ w hw k H locs ls hP hD hS hl
  cases hw
  exact lv_iconst hO.1 hO.2.1 hf.1 hv (k H locs ls hP hD hS hl)
theorem ik_bipush {S : am_S} (n : Int) (v : Int32) (hv : (Int8.ofInt n).toInt32 = v) : am_IK S (.bipush n, 2, none) (o_k (vI v)) := by
  rintro ⟨p, l, e, R, s, m, args, below, meth, c, Q, D, cs, ad, A, nc, ns⟩ hO pc hf env st μ w hw k H locs ls hP hD hS hl
  cases hw
  exact lv_bipush hO.1 hO.2.1 hf.1 hv (k H locs ls hP hD hS hl)
theorem ik_sipush {S : am_S} (n : Int) (v : Int32) (hv : (Int16.ofInt n).toInt32 = v) : am_IK S (.sipush n, 3, none) (o_k (vI v)) := by
  rintro ⟨p, l, e, R, s, m, args, below, meth, c, Q, D, cs, ad, A, nc, ns⟩ hO pc hf env st μ w hw k H locs ls hP hD hS hl
  cases hw
  exact lv_sipush hO.1 hO.2.1 hf.1 hv (k H locs ls hP hD hS hl)
theorem ik_lconst {S : am_S} (n : Fin 2) (v : Int64) (hv : Int64.ofNat (n : Nat) = v) : am_IK S (.lconst n, 1, none) (o_k (vL v)) := by
  rintro ⟨p, l, e, R, s, m, args, below, meth, c, Q, D, cs, ad, A, nc, ns⟩ hO pc hf env st μ w hw k H locs ls hP hD hS hl
  cases hw
  exact lv_lconst hO.1 hO.2.1 hf.1 hv (k H locs ls hP hD hS hl)
theorem ik_ldc {S : am_S} (i : Nat) (v : Int32) (q : Nat) : am_IK S (.ldc i, 2, some (q, .constant S.2.2.2.2 i v)) (o_k (vI v)) := by
  rintro ⟨p, l, e, R, s, m, args, below, meth, c, Q, D, cs, ad, A, nc, ns⟩ hO pc hf env st μ w hw k H locs ls hP hD hS hl
  cases hw
  exact lv_ldc hO.1 hO.2.1 hO.2.2.2.1 (hO.2.2.2.2.1.1 _ (am_word (hf.2.1 _ rfl) rfl)) hf.1 (k H locs ls hP hD hS hl)
theorem ik_ldc2 {S : am_S} (i : Nat) (v : Int64) (q : Nat) : am_IK S (.ldc2_w i, 3, some (q, .constantLong S.2.2.2.2 i v)) (o_k (vL v)) := by
  rintro ⟨p, l, e, R, s, m, args, below, meth, c, Q, D, cs, ad, A, nc, ns⟩ hO pc hf env st μ w hw k H locs ls hP hD hS hl
  cases hw
  exact lv_ldc2 hO.1 hO.2.1 hO.2.2.2.1 (hO.2.2.2.2.1.1 _ (am_word (hf.2.1 _ rfl) rfl)) hf.1 (k H locs ls hP hD hS hl)
theorem ik_iload_n {S : am_S} (n : Fin 4) : am_IK S (.iload_n n, 1, none) (o_li n) := by
  rintro ⟨p, l, e, R, s, m, args, below, meth, c, Q, D, cs, ad, A, nc, ns⟩ hO pc hf env st μ w hw k H locs ls hP hD hS hl
  obtain ⟨x, rfl, hx⟩ := o_li_ok hw
  exact lv_iload_n hO.1 hO.2.1 hf.1 rfl (hl.get hx rfl) (k H locs ls hP hD hS hl)
theorem ik_iload {S : am_S} (n : Nat) : am_IK S (.iload n, 2, none) (o_li n) := by
  rintro ⟨p, l, e, R, s, m, args, below, meth, c, Q, D, cs, ad, A, nc, ns⟩ hO pc hf env st μ w hw k H locs ls hP hD hS hl
  obtain ⟨x, rfl, hx⟩ := o_li_ok hw
  exact lv_iload hO.1 hO.2.1 hf.1 (hl.get hx rfl) (k H locs ls hP hD hS hl)
theorem ik_lload_n {S : am_S} (n : Fin 4) : am_IK S (.lload_n n, 1, none) (o_ll n) := by
  rintro ⟨p, l, e, R, s, m, args, below, meth, c, Q, D, cs, ad, A, nc, ns⟩ hO pc hf env st μ w hw k H locs ls hP hD hS hl
  obtain ⟨x, rfl, hx⟩ := o_ll_ok hw
  exact lv_lload_n hO.1 hO.2.1 hf.1 rfl (hl.get hx rfl) (k H locs ls hP hD hS hl)
theorem ik_lload {S : am_S} (n : Nat) : am_IK S (.lload n, 2, none) (o_ll n) := by
  rintro ⟨p, l, e, R, s, m, args, below, meth, c, Q, D, cs, ad, A, nc, ns⟩ hO pc hf env st μ w hw k H locs ls hP hD hS hl
  obtain ⟨x, rfl, hx⟩ := o_ll_ok hw
  exact lv_lload hO.1 hO.2.1 hf.1 (hl.get hx rfl) (k H locs ls hP hD hS hl)
theorem ik_aload_n {S : am_S} (n : Fin 4) : am_IK S (.aload_n n, 1, none) (o_lr n) := by
  rintro ⟨p, l, e, R, s, m, args, below, meth, c, Q, D, cs, ad, A, nc, ns⟩ hO pc hf env st μ w hw k H locs ls hP hD hS hl
  obtain ⟨x, rfl, hx⟩ := o_lr_ok hw
  exact lv_aload_n hO.1 hO.2.1 hf.1 rfl (hl.get hx rfl) (k H locs ls hP hD hS hl)
theorem ik_aload {S : am_S} (n : Nat) : am_IK S (.aload n, 2, none) (o_lr n) := by
  rintro ⟨p, l, e, R, s, m, args, below, meth, c, Q, D, cs, ad, A, nc, ns⟩ hO pc hf env st μ w hw k H locs ls hP hD hS hl
  obtain ⟨x, rfl, hx⟩ := o_lr_ok hw
  exact lv_aload hO.1 hO.2.1 hf.1 (hl.get hx rfl) (k H locs ls hP hD hS hl)
/-! two ints, two longs -/
def o_ii (f : Int32 → Int32 → Int32) : AV → AV → am_M → Option AV := fun a b _ => match a, b with
  | .inl x, .inl y => some (vI (f x y))
  | _, _ => none
def o_iz (f : Int32 → Int32 → Int32) : AV → AV → am_M → Option AV := fun a b _ => match a, b with
  | .inl x, .inl y => if y = 0 then none else some (vI (f x y))
  | _, _ => none
def o_jj (f : Int64 → Int64 → Int64) : AV → AV → am_M → Option AV := fun a b _ => match a, b with
  | .inr (.inl x), .inr (.inl y) => some (vL (f x y))
  | _, _ => none
def o_jz (f : Int64 → Int64 → Int64) : AV → AV → am_M → Option AV := fun a b _ => match a, b with
  | .inr (.inl x), .inr (.inl y) => if y = 0 then none else some (vL (f x y))
  | _, _ => none
def o_ji (f : Int64 → Int32 → Int64) : AV → AV → am_M → Option AV := fun a b _ => match a, b with
  | .inr (.inl x), .inl y => some (vL (f x y))
  | _, _ => none
def o_jc : AV → AV → am_M → Option AV := fun a b _ => match a, b with
  | .inr (.inl x), .inr (.inl y) => some (vI (lg_cmp x y))
  | _, _ => none
theorem o_ii_ok {f : Int32 → Int32 → Int32} {a b w : AV} {μ : am_M} (h : o_ii f a b μ = some w) : ∃ x y, a = vI x ∧ b = vI y ∧ w = vI (f x y) := by
  unfold o_ii at h
  split at h
  · cases h
    exact ⟨_, _, rfl, rfl, rfl⟩
  · cases h
theorem o_iz_ok {f : Int32 → Int32 → Int32} {a b w : AV} {μ : am_M} (h : o_iz f a b μ = some w) : ∃ x y, a = vI x ∧ b = vI y ∧ w = vI (f x y) ∧ ¬ y = 0 := by
  unfold o_iz at h
  split at h
  · split at h
    · cases h
    · rename_i hz
      cases h
      exact ⟨_, _, rfl, rfl, rfl, hz⟩
  · cases h
theorem o_jj_ok {f : Int64 → Int64 → Int64} {a b w : AV} {μ : am_M} (h : o_jj f a b μ = some w) : ∃ x y, a = vL x ∧ b = vL y ∧ w = vL (f x y) := by
  unfold o_jj at h
  split at h
  · cases h
    exact ⟨_, _, rfl, rfl, rfl⟩
  · cases h
theorem o_jz_ok {f : Int64 → Int64 → Int64} {a b w : AV} {μ : am_M} (h : o_jz f a b μ = some w) : ∃ x y, a = vL x ∧ b = vL y ∧ w = vL (f x y) ∧ ¬ y = 0 := by
  unfold o_jz at h
  split at h
  · split at h
    · cases h
    · rename_i hz
      cases h
      exact ⟨_, _, rfl, rfl, rfl, hz⟩
  · cases h
theorem o_ji_ok {f : Int64 → Int32 → Int64} {a b w : AV} {μ : am_M} (h : o_ji f a b μ = some w) : ∃ x y, a = vL x ∧ b = vI y ∧ w = vL (f x y) := by
  unfold o_ji at h
  split at h
  · cases h
    exact ⟨_, _, rfl, rfl, rfl⟩
  · cases h
theorem o_jc_ok {a b w : AV} {μ : am_M} (h : o_jc a b μ = some w) : ∃ x y, a = vL x ∧ b = vL y ∧ w = vI (lg_cmp x y) := by
  unfold o_jc at h
  split at h
  · cases h
    exact ⟨_, _, rfl, rfl, rfl⟩
  · cases h
theorem ib_iadd {S : am_S} : am_IB S (.iadd, 1, none) (o_ii (fun x y => x + y)) := by
  rintro ⟨p, l, e, R, s, m, args, below, meth, c, Q, D, cs, ad, A, nc, ns⟩ hO pc hf env st μ v1 v2 w hw k H locs ls hP hD hS hl
  obtain ⟨x, y, rfl, rfl, rfl⟩ := o_ii_ok hw
  exact lv_iadd hO.1 hO.2.1 hf.1 (k H locs ls hP hD hS hl)
theorem ib_isub {S : am_S} : am_IB S (.isub, 1, none) (o_ii (fun x y => x - y)) := by
  rintro ⟨p, l, e, R, s, m, args, below, meth, c, Q, D, cs, ad, A, nc, ns⟩ hO pc hf env st μ v1 v2 w hw k H locs ls hP hD hS hl
  obtain ⟨x, y, rfl, rfl, rfl⟩ := o_ii_ok hw
  exact lv_isub hO.1 hO.2.1 hf.1 (k H locs ls hP hD hS hl)
theorem ib_imul {S : am_S} : am_IB S (.imul, 1, none) (o_ii (fun x y => x * y)) := by
  rintro ⟨p, l, e, R, s, m, args, below, meth, c, Q, D, cs, ad, A, nc, ns⟩ hO pc hf env st μ v1 v2 w hw k H locs ls hP hD hS hl
  obtain ⟨x, y, rfl, rfl, rfl⟩ := o_ii_ok hw
  exact lv_imul hO.1 hO.2.1 hf.1 (k H locs ls hP hD hS hl)
theorem ib_iand {S : am_S} : am_IB S (.iand, 1, none) (o_ii (fun x y => x &&& y)) := by
  rintro ⟨p, l, e, R, s, m, args, below, meth, c, Q, D, cs, ad, A, nc, ns⟩ hO pc hf env st μ v1 v2 w hw k H locs ls hP hD hS hl
  obtain ⟨x, y, rfl, rfl, rfl⟩ := o_ii_ok hw
  exact lv_iand hO.1 hO.2.1 hf.1 (k H locs ls hP hD hS hl)
theorem ib_ior {S : am_S} : am_IB S (.ior, 1, none) (o_ii (fun x y => x ||| y)) := by
  rintro ⟨p, l, e, R, s, m, args, below, meth, c, Q, D, cs, ad, A, nc, ns⟩ hO pc hf env st μ v1 v2 w hw k H locs ls hP hD hS hl
  obtain ⟨x, y, rfl, rfl, rfl⟩ := o_ii_ok hw
  exact lv_ior hO.1 hO.2.1 hf.1 (k H locs ls hP hD hS hl)
theorem ib_ishl {S : am_S} : am_IB S (.ishl, 1, none) (o_ii (fun x y => x <<< (y &&& 31))) := by
  rintro ⟨p, l, e, R, s, m, args, below, meth, c, Q, D, cs, ad, A, nc, ns⟩ hO pc hf env st μ v1 v2 w hw k H locs ls hP hD hS hl
  obtain ⟨x, y, rfl, rfl, rfl⟩ := o_ii_ok hw
  exact lv_ishl hO.1 hO.2.1 hf.1 (k H locs ls hP hD hS hl)
theorem ib_ishr {S : am_S} : am_IB S (.ishr, 1, none) (o_ii (fun x y => x >>> (y &&& 31))) := by
  rintro ⟨p, l, e, R, s, m, args, below, meth, c, Q, D, cs, ad, A, nc, ns⟩ hO pc hf env st μ v1 v2 w hw k H locs ls hP hD hS hl
  obtain ⟨x, y, rfl, rfl, rfl⟩ := o_ii_ok hw
  exact lv_ishr hO.1 hO.2.1 hf.1 (k H locs ls hP hD hS hl)
theorem ib_iushr {S : am_S} : am_IB S (.iushr, 1, none) (o_ii (fun x y => (x.toUInt32 >>> (y.toUInt32 &&& Int32.toUInt32 31)).toInt32)) := by
  rintro ⟨p, l, e, R, s, m, args, below, meth, c, Q, D, cs, ad, A, nc, ns⟩ hO pc hf env st μ v1 v2 w hw k H locs ls hP hD hS hl
  obtain ⟨x, y, rfl, rfl, rfl⟩ := o_ii_ok hw
  exact lv_iushr hO.1 hO.2.1 hf.1 rfl (k H locs ls hP hD hS hl)
theorem ib_idiv {S : am_S} : am_IB S (.idiv, 1, none) (o_iz (fun x y => x / y)) := by
  rintro ⟨p, l, e, R, s, m, args, below, meth, c, Q, D, cs, ad, A, nc, ns⟩ hO pc hf env st μ v1 v2 w hw k H locs ls hP hD hS hl
  obtain ⟨x, y, rfl, rfl, rfl, hz⟩ := o_iz_ok hw
  exact lv_idiv hO.1 hO.2.1 hf.1 hz (k H locs ls hP hD hS hl)
theorem ib_irem {S : am_S} : am_IB S (.irem, 1, none) (o_iz (fun x y => x - (x / y) * y)) := by
  rintro ⟨p, l, e, R, s, m, args, below, meth, c, Q, D, cs, ad, A, nc, ns⟩ hO pc hf env st μ v1 v2 w hw k H locs ls hP hD hS hl
  obtain ⟨x, y, rfl, rfl, rfl, hz⟩ := o_iz_ok hw
  exact lv_irem hO.1 hO.2.1 hf.1 hz (k H locs ls hP hD hS hl)
theorem ib_ladd {S : am_S} : am_IB S (.ladd, 1, none) (o_jj (fun x y => x + y)) := by
  rintro ⟨p, l, e, R, s, m, args, below, meth, c, Q, D, cs, ad, A, nc, ns⟩ hO pc hf env st μ v1 v2 w hw k H locs ls hP hD hS hl
  obtain ⟨x, y, rfl, rfl, rfl⟩ := o_jj_ok hw
  exact lv_ladd hO.1 hO.2.1 hf.1 (k H locs ls hP hD hS hl)
theorem ib_lsub {S : am_S} : am_IB S (.lsub, 1, none) (o_jj (fun x y => x - y)) := by
  rintro ⟨p, l, e, R, s, m, args, below, meth, c, Q, D, cs, ad, A, nc, ns⟩ hO pc hf env st μ v1 v2 w hw k H locs ls hP hD hS hl
  obtain ⟨x, y, rfl, rfl, rfl⟩ := o_jj_ok hw
  exact lv_lsub hO.1 hO.2.1 hf.1 (k H locs ls hP hD hS hl)
theorem ib_lmul {S : am_S} : am_IB S (.lmul, 1, none) (o_jj (fun x y => x * y)) := by
  rintro ⟨p, l, e, R, s, m, args, below, meth, c, Q, D, cs, ad, A, nc, ns⟩ hO pc hf env st μ v1 v2 w hw k H locs ls hP hD hS hl
  obtain ⟨x, y, rfl, rfl, rfl⟩ := o_jj_ok hw
  exact lv_lmul hO.1 hO.2.1 hf.1 (k H locs ls hP hD hS hl)
theorem ib_ldiv {S : am_S} : am_IB S (.ldiv, 1, none) (o_jz (fun x y => x / y)) := by
  rintro ⟨p, l, e, R, s, m, args, below, meth, c, Q, D, cs, ad, A, nc, ns⟩ hO pc hf env st μ v1 v2 w hw k H locs ls hP hD hS hl
  obtain ⟨x, y, rfl, rfl, rfl, hz⟩ := o_jz_ok hw
  exact lv_ldiv hO.1 hO.2.1 hf.1 hz (k H locs ls hP hD hS hl)
theorem ib_lrem {S : am_S} : am_IB S (.lrem, 1, none) (o_jz (fun x y => x - (x / y) * y)) := by
  rintro ⟨p, l, e, R, s, m, args, below, meth, c, Q, D, cs, ad, A, nc, ns⟩ hO pc hf env st μ v1 v2 w hw k H locs ls hP hD hS hl
  obtain ⟨x, y, rfl, rfl, rfl, hz⟩ := o_jz_ok hw
  exact lv_lrem hO.1 hO.2.1 hf.1 hz (k H locs ls hP hD hS hl)
theorem ib_lshl {S : am_S} : am_IB S (.lshl, 1, none) (o_ji (fun x y => x <<< (y.toInt64 &&& 63))) := by
  rintro ⟨p, l, e, R, s, m, args, below, meth, c, Q, D, cs, ad, A, nc, ns⟩ hO pc hf env st μ v1 v2 w hw k H locs ls hP hD hS hl
  obtain ⟨x, y, rfl, rfl, rfl⟩ := o_ji_ok hw
  exact lv_lshl hO.1 hO.2.1 hf.1 rfl (k H locs ls hP hD hS hl)
theorem ib_lcmp {S : am_S} : am_IB S (.lcmp, 1, none) (o_jc) := by
  rintro ⟨p, l, e, R, s, m, args, below, meth, c, Q, D, cs, ad, A, nc, ns⟩ hO pc hf env st μ v1 v2 w hw k H locs ls hP hD hS hl
  obtain ⟨x, y, rfl, rfl, rfl⟩ := o_jc_ok hw
  exact W.lcmp hO.1 hO.2.1 hf.1 (k H locs ls hP hD hS hl)
