/-! EVALUATION without binders: what is left of each step is a name, not a function -/
theorem v_bd {α β : Type} (a : α) (μ : am_M) (k : α → am_M → Option β) : am_bd (some (a, μ)) k = k a μ := (rfl)
def mp (o : Option AV) (μ : am_M) : Option (AV × am_M) := o.map (fun v => (v, μ))
theorem mp_s (v : AV) (μ : am_M) : mp (some v) μ = some (v, μ) := (rfl)
theorem v_en (op : List AV → Option AV) (env : List AV) (μ : am_M) : e_n op env μ = mp (op env) μ := (rfl)
theorem v_k (v : AV) (env : List AV) : o_k v env = some v := (rfl)
def li (o : Option AV) : Option AV := match o with
  | some (.inl x) => some (vI x)
  | _ => none
theorem v_li (i : Nat) (env : List AV) : o_li i env = li (env[i]?) := (rfl)
theorem li_s (x : Int32) : li (some (vI x)) = some (vI x) := (rfl)
def ll (o : Option AV) : Option AV := match o with
  | some (.inr (.inl x)) => some (vL x)
  | _ => none
theorem v_ll (i : Nat) (env : List AV) : o_ll i env = ll (env[i]?) := (rfl)
theorem ll_s (x : Int64) : ll (some (vL x)) = some (vL x) := (rfl)
def lr (o : Option AV) : Option AV := match o with
  | some (.inr (.inr (.inl x))) => some (vR x)
  | _ => none
theorem v_lr (i : Nat) (env : List AV) : o_lr i env = lr (env[i]?) := (rfl)
theorem lr_s (x : Nat) : lr (some (vR x)) = some (vR x) := (rfl)
def ku (op : AV → am_M → Option AV) (v : AV) (μ : am_M) : Option (AV × am_M) := mp (op v μ) μ
theorem v_eu (op : AV → am_M → Option AV) (a : am_X) (env : List AV) (μ : am_M) : e_u op a env μ = am_bd (a env μ) (ku op) := (rfl)
theorem v_ku (op : AV → am_M → Option AV) (v : AV) (μ : am_M) : ku op v μ = mp (op v μ) μ := (rfl)
def kb2 (op : AV → AV → am_M → Option AV) (v w : AV) (μ : am_M) : Option (AV × am_M) := mp (op v w μ) μ
def kb1 (op : AV → AV → am_M → Option AV) (b : am_X) (env : List AV) (v : AV) (μ : am_M) : Option (AV × am_M) := am_bd (b env μ) (kb2 op v)
theorem v_eb (op : AV → AV → am_M → Option AV) (a b : am_X) (env : List AV) (μ : am_M) : e_b op a b env μ = am_bd (a env μ) (kb1 op b env) := (rfl)
theorem v_kb1 (op : AV → AV → am_M → Option AV) (b : am_X) (env : List AV) (v : AV) (μ : am_M) : kb1 op b env v μ = am_bd (b env μ) (kb2 op v) := (rfl)
theorem v_kb2 (op : AV → AV → am_M → Option AV) (v w : AV) (μ : am_M) : kb2 op v w μ = mp (op v w μ) μ := (rfl)
def kc (a b : am_X) (env : List AV) (z : Bool) (μ : am_M) : Option (AV × am_M) := if z then a env μ else b env μ
theorem v_ec (c : am_B) (a b : am_X) (env : List AV) (μ : am_M) : e_c c a b env μ = am_bd (c env μ) (kc a b env) := (rfl)
theorem kc_t (a b : am_X) (env : List AV) (μ : am_M) : kc a b env true μ = a env μ := (rfl)
theorem kc_f (a b : am_X) (env : List AV) (μ : am_M) : kc a b env false μ = b env μ := (rfl)
def kz (cd : ClassFile.Cond) (v : AV) (μ : am_M) : Option (Bool × am_M) := match v with
  | .inl x => some (am_c0 cd x, μ)
  | _ => none
theorem v_bz (cd : ClassFile.Cond) (a : am_X) (env : List AV) (μ : am_M) : b_z cd a env μ = am_bd (a env μ) (kz cd) := (rfl)
theorem kz_I (cd : ClassFile.Cond) (x : Int32) (μ : am_M) : kz cd (vI x) μ = some (am_c0 cd x, μ) := (rfl)
def k22 (cd : ClassFile.Cond) (v w : AV) (μ : am_M) : Option (Bool × am_M) := match v, w with
  | .inl x, .inl y => some (am_c2 cd x y, μ)
  | _, _ => none
def k21 (cd : ClassFile.Cond) (b : am_X) (env : List AV) (v : AV) (μ : am_M) : Option (Bool × am_M) := am_bd (b env μ) (k22 cd v)
theorem v_b2 (cd : ClassFile.Cond) (a b : am_X) (env : List AV) (μ : am_M) : b_2 cd a b env μ = am_bd (a env μ) (k21 cd b env) := (rfl)
theorem v_k21 (cd : ClassFile.Cond) (b : am_X) (env : List AV) (v : AV) (μ : am_M) : k21 cd b env v μ = am_bd (b env μ) (k22 cd v) := (rfl)
theorem k22_I (cd : ClassFile.Cond) (x y : Int32) (μ : am_M) : k22 cd (vI x) (vI y) μ = some (am_c2 cd x y, μ) := (rfl)
def kan (b : am_B) (env : List AV) (x : Bool) (μ : am_M) : Option (Bool × am_M) := if x then b env μ else some (false, μ)
theorem v_and (a b : am_B) (env : List AV) (μ : am_M) : b_and a b env μ = am_bd (a env μ) (kan b env) := (rfl)
theorem kan_t (b : am_B) (env : List AV) (μ : am_M) : kan b env true μ = b env μ := (rfl)
theorem kan_f (b : am_B) (env : List AV) (μ : am_M) : kan b env false μ = some (false, μ) := (rfl)
def kor (b : am_B) (env : List AV) (x : Bool) (μ : am_M) : Option (Bool × am_M) := if x then some (true, μ) else b env μ
theorem v_or (a b : am_B) (env : List AV) (μ : am_M) : b_or a b env μ = am_bd (a env μ) (kor b env) := (rfl)
theorem kor_t (b : am_B) (env : List AV) (μ : am_M) : kor b env true μ = some (true, μ) := (rfl)
theorem kor_f (b : am_B) (env : List AV) (μ : am_M) : kor b env false μ = b env μ := (rfl)
def knt (x : Bool) (μ : am_M) : Option (Bool × am_M) := some (!x, μ)
theorem v_not (a : am_B) (env : List AV) (μ : am_M) : b_not a env μ = am_bd (a env μ) knt := (rfl)
theorem v_knt (x : Bool) (μ : am_M) : knt x μ = some (!x, μ) := (rfl)
theorem v_a0 (env : List AV) (μ : am_M) : a_0 env μ = some ([], μ) := (rfl)
def ka2 (v : AV) (vs : List AV) (μ : am_M) : Option (List AV × am_M) := some (v :: vs, μ)
def ka1 (b : am_L) (env : List AV) (v : AV) (μ : am_M) : Option (List AV × am_M) := am_bd (b env μ) (ka2 v)
theorem v_a1 (a : am_X) (b : am_L) (env : List AV) (μ : am_M) : a_1 a b env μ = am_bd (a env μ) (ka1 b env) := (rfl)
theorem v_ka1 (b : am_L) (env : List AV) (v : AV) (μ : am_M) : ka1 b env v μ = am_bd (b env μ) (ka2 v) := (rfl)
theorem v_ka2 (v : AV) (vs : List AV) (μ : am_M) : ka2 v vs μ = some (v :: vs, μ) := (rfl)
def kkr (o : Option (Option AV × am_M)) : Option (AV × am_M) := match o with
  | some (some v, μ) => some (v, μ)
  | _ => none
def kk (g : List AV → am_M → Option (Option AV × am_M)) (vs : List AV) (μ : am_M) : Option (AV × am_M) := kkr (g vs μ)
theorem v_ek (g : List AV → am_M → Option (Option AV × am_M)) (a : am_L) (env : List AV) (μ : am_M) : e_k g a env μ = am_bd (a env μ) (kk g) := (rfl)
theorem v_kk (g : List AV → am_M → Option (Option AV × am_M)) (vs : List AV) (μ : am_M) : kk g vs μ = kkr (g vs μ) := (rfl)
theorem kkr_s (v : AV) (μ : am_M) : kkr (some (some v, μ)) = some (v, μ) := (rfl)
def ksr (o : Option (Option AV × am_M)) (env : List AV) : Option ((List AV × am_M) ⊕ (Option AV × am_M)) := match o with
  | some (none, μ) => some (.inl (env, μ))
  | _ => none
def ks (g : List AV → am_M → Option (Option AV × am_M)) (env vs : List AV) (μ : am_M) : Option ((List AV × am_M) ⊕ (Option AV × am_M)) := ksr (g vs μ) env
theorem v_sk (g : List AV → am_M → Option (Option AV × am_M)) (a : am_L) (env : List AV) (μ : am_M) : s_k g a env μ = am_bd (a env μ) (ks g env) := (rfl)
theorem v_ks (g : List AV → am_M → Option (Option AV × am_M)) (env vs : List AV) (μ : am_M) : ks g env vs μ = ksr (g vs μ) env := (rfl)
theorem ksr_s (μ : am_M) (env : List AV) : ksr (some (none, μ)) env = some (.inl (env, μ)) := (rfl)
def kpop (env : List AV) (v : AV) (μ : am_M) : Option ((List AV × am_M) ⊕ (Option AV × am_M)) := if am_c1 v = true then some (.inl (env, μ)) else none
theorem v_pop (a : am_X) (env : List AV) (μ : am_M) : s_pop a env μ = am_bd (a env μ) (kpop env) := (rfl)
theorem kpop_I (env : List AV) (x : Int32) (μ : am_M) : kpop env (vI x) μ = some (.inl (env, μ)) := (rfl)
def kase (o : Option (List AV)) (μ : am_M) : Option ((List AV × am_M) ⊕ (Option AV × am_M)) := o.map (fun env' => .inl (env', μ))
theorem kase_s (env : List AV) (μ : am_M) : kase (some env) μ = some (.inl (env, μ)) := (rfl)
def kas (op : List AV → AV → Option (List AV)) (env : List AV) (v : AV) (μ : am_M) : Option ((List AV × am_M) ⊕ (Option AV × am_M)) := kase (op env v) μ
theorem v_as (op : List AV → AV → Option (List AV)) (a : am_X) (env : List AV) (μ : am_M) : s_as op a env μ = am_bd (a env μ) (kas op env) := (rfl)
theorem v_kas (op : List AV → AV → Option (List AV)) (env : List AV) (v : AV) (μ : am_M) : kas op env v μ = kase (op env v) μ := (rfl)
theorem v_inc (nL i : Nat) (d : Int32) (env : List AV) (μ : am_M) : s_inc nL i d env μ = kase (o_inc nL i d env) μ := (rfl)
def kme (o : Option am_M) (env : List AV) : Option ((List AV × am_M) ⊕ (Option AV × am_M)) := o.map (fun μ' => .inl (env, μ'))
theorem kme_s (μ : am_M) (env : List AV) : kme (some μ) env = some (.inl (env, μ)) := (rfl)
def kpf2 (Sh : List am_SC) (ci j : Nat) (b : Bool) (env : List AV) (x v : AV) (μ : am_M) : Option ((List AV × am_M) ⊕ (Option AV × am_M)) := kme (am_pv Sh ci j b x v μ) env
def kpf1 (Sh : List am_SC) (ci j : Nat) (b : Bool) (e : am_X) (env : List AV) (x : AV) (μ : am_M) : Option ((List AV × am_M) ⊕ (Option AV × am_M)) := am_bd (e env μ) (kpf2 Sh ci j b env x)
theorem v_pf (Sh : List am_SC) (ci j : Nat) (b : Bool) (a e : am_X) (env : List AV) (μ : am_M) : s_pf Sh ci j b a e env μ = am_bd (a env μ) (kpf1 Sh ci j b e env) := (rfl)
theorem v_kpf1 (Sh : List am_SC) (ci j : Nat) (b : Bool) (e : am_X) (env : List AV) (x : AV) (μ : am_M) : kpf1 Sh ci j b e env x μ = am_bd (e env μ) (kpf2 Sh ci j b env x) := (rfl)
theorem v_kpf2 (Sh : List am_SC) (ci j : Nat) (b : Bool) (env : List AV) (x v : AV) (μ : am_M) : kpf2 Sh ci j b env x v μ = kme (am_pv Sh ci j b x v μ) env := (rfl)
def kpo4 (Sh : List am_SC) (ci j : Nat) (b : Bool) (env : List AV) (x : AV) (o : Option AV) (μ : am_M) : Option ((List AV × am_M) ⊕ (Option AV × am_M)) := match o with
  | some w => kme (am_pv Sh ci j b x w μ) env
  | none => none
def kpo3 (Sh : List am_SC) (ci j : Nat) (b : Bool) (op : AV → AV → am_M → Option AV) (env : List AV) (x u v : AV) (μ : am_M) : Option ((List AV × am_M) ⊕ (Option AV × am_M)) := kpo4 Sh ci j b env x (op u v μ) μ
def kpo2 (Sh : List am_SC) (ci j : Nat) (b : Bool) (op : AV → AV → am_M → Option AV) (e : am_X) (env : List AV) (x : AV) (o : Option AV) (μ : am_M) : Option ((List AV × am_M) ⊕ (Option AV × am_M)) := match o with
  | some u => am_bd (e env μ) (kpo3 Sh ci j b op env x u)
  | none => none
def kpo1 (Sh : List am_SC) (ci j : Nat) (b : Bool) (op : AV → AV → am_M → Option AV) (e : am_X) (env : List AV) (x : AV) (μ : am_M) : Option ((List AV × am_M) ⊕ (Option AV × am_M)) := if am_c1 x = true then kpo2 Sh ci j b op e env x (am_gv Sh ci j x μ) μ else none
theorem v_po (Sh : List am_SC) (ci j : Nat) (b : Bool) (op : AV → AV → am_M → Option AV) (a e : am_X) (env : List AV) (μ : am_M) : s_po Sh ci j b op a e env μ = am_bd (a env μ) (kpo1 Sh ci j b op e env) := by
  unfold s_po kpo1 kpo2 kpo3 kpo4 kme
  rfl
theorem v_kpo1 (Sh : List am_SC) (ci j : Nat) (b : Bool) (op : AV → AV → am_M → Option AV) (e : am_X) (env : List AV) (x : Nat) (μ : am_M) : kpo1 Sh ci j b op e env (vR x) μ = kpo2 Sh ci j b op e env (vR x) (am_gv Sh ci j (vR x) μ) μ := (rfl)
theorem v_kpo2 (Sh : List am_SC) (ci j : Nat) (b : Bool) (op : AV → AV → am_M → Option AV) (e : am_X) (env : List AV) (x u : AV) (μ : am_M) : kpo2 Sh ci j b op e env x (some u) μ = am_bd (e env μ) (kpo3 Sh ci j b op env x u) := (rfl)
theorem v_kpo3 (Sh : List am_SC) (ci j : Nat) (b : Bool) (op : AV → AV → am_M → Option AV) (env : List AV) (x u v : AV) (μ : am_M) : kpo3 Sh ci j b op env x u v μ = kpo4 Sh ci j b env x (op u v μ) μ := (rfl)
theorem v_kpo4 (Sh : List am_SC) (ci j : Nat) (b : Bool) (env : List AV) (x w : AV) (μ : am_M) : kpo4 Sh ci j b env x (some w) μ = kme (am_pv Sh ci j b x w μ) env := (rfl)
def kia3 (Sh : List am_SC) (env : List AV) (x j v : AV) (μ : am_M) : Option ((List AV × am_M) ⊕ (Option AV × am_M)) := kme (am_wv Sh x j v μ) env
def kia2 (Sh : List am_SC) (e : am_X) (env : List AV) (x j : AV) (μ : am_M) : Option ((List AV × am_M) ⊕ (Option AV × am_M)) := am_bd (e env μ) (kia3 Sh env x j)
def kia1 (Sh : List am_SC) (i e : am_X) (env : List AV) (x : AV) (μ : am_M) : Option ((List AV × am_M) ⊕ (Option AV × am_M)) := am_bd (i env μ) (kia2 Sh e env x)
theorem v_ia (Sh : List am_SC) (a i e : am_X) (env : List AV) (μ : am_M) : s_ia Sh a i e env μ = am_bd (a env μ) (kia1 Sh i e env) := (rfl)
theorem v_kia1 (Sh : List am_SC) (i e : am_X) (env : List AV) (x : AV) (μ : am_M) : kia1 Sh i e env x μ = am_bd (i env μ) (kia2 Sh e env x) := (rfl)
theorem v_kia2 (Sh : List am_SC) (e : am_X) (env : List AV) (x j : AV) (μ : am_M) : kia2 Sh e env x j μ = am_bd (e env μ) (kia3 Sh env x j) := (rfl)
theorem v_kia3 (Sh : List am_SC) (env : List AV) (x j v : AV) (μ : am_M) : kia3 Sh env x j v μ = kme (am_wv Sh x j v μ) env := (rfl)
def kio5 (Sh : List am_SC) (env : List AV) (x j : AV) (o : Option AV) (μ : am_M) : Option ((List AV × am_M) ⊕ (Option AV × am_M)) := match o with
  | some w => kme (am_wv Sh x j w μ) env
  | none => none
def kio4 (Sh : List am_SC) (op : AV → AV → am_M → Option AV) (env : List AV) (x j u v : AV) (μ : am_M) : Option ((List AV × am_M) ⊕ (Option AV × am_M)) := kio5 Sh env x j (op u v μ) μ
def kio3 (Sh : List am_SC) (op : AV → AV → am_M → Option AV) (e : am_X) (env : List AV) (x j : AV) (o : Option AV) (μ : am_M) : Option ((List AV × am_M) ⊕ (Option AV × am_M)) := match o with
  | some u => am_bd (e env μ) (kio4 Sh op env x j u)
  | none => none
def kio2 (Sh : List am_SC) (op : AV → AV → am_M → Option AV) (e : am_X) (env : List AV) (x j : AV) (μ : am_M) : Option ((List AV × am_M) ⊕ (Option AV × am_M)) := if am_c1 x = true ∧ am_c1 j = true then kio3 Sh op e env x j (am_lv Sh x j μ) μ else none
def kio1 (Sh : List am_SC) (op : AV → AV → am_M → Option AV) (i e : am_X) (env : List AV) (x : AV) (μ : am_M) : Option ((List AV × am_M) ⊕ (Option AV × am_M)) := am_bd (i env μ) (kio2 Sh op e env x)
theorem v_io (Sh : List am_SC) (op : AV → AV → am_M → Option AV) (a i e : am_X) (env : List AV) (μ : am_M) : s_io Sh op a i e env μ = am_bd (a env μ) (kio1 Sh op i e env) := by
  unfold s_io kio1 kio2 kio3 kio4 kio5 kme
  rfl
theorem v_kio1 (Sh : List am_SC) (op : AV → AV → am_M → Option AV) (i e : am_X) (env : List AV) (x : AV) (μ : am_M) : kio1 Sh op i e env x μ = am_bd (i env μ) (kio2 Sh op e env x) := (rfl)
theorem v_kio2 (Sh : List am_SC) (op : AV → AV → am_M → Option AV) (e : am_X) (env : List AV) (x : Nat) (j : Int32) (μ : am_M) : kio2 Sh op e env (vR x) (vI j) μ = kio3 Sh op e env (vR x) (vI j) (am_lv Sh (vR x) (vI j) μ) μ := by
  unfold kio2
  rw [if_pos ⟨rfl, rfl⟩]
theorem v_kio3 (Sh : List am_SC) (op : AV → AV → am_M → Option AV) (e : am_X) (env : List AV) (x j u : AV) (μ : am_M) : kio3 Sh op e env x j (some u) μ = am_bd (e env μ) (kio4 Sh op env x j u) := (rfl)
theorem v_kio4 (Sh : List am_SC) (op : AV → AV → am_M → Option AV) (env : List AV) (x j u v : AV) (μ : am_M) : kio4 Sh op env x j u v μ = kio5 Sh env x j (op u v μ) μ := (rfl)
theorem v_kio5 (Sh : List am_SC) (env : List AV) (x j w : AV) (μ : am_M) : kio5 Sh env x j (some w) μ = kme (am_wv Sh x j w μ) env := (rfl)
theorem v_s0 (env : List AV) (μ : am_M) : s_0 env μ = some (.inl (env, μ)) := (rfl)
def sqk (o : Option ((List AV × am_M) ⊕ (Option AV × am_M))) (b : am_T) : Option ((List AV × am_M) ⊕ (Option AV × am_M)) := match o with
  | some (.inl (env', μ')) => b env' μ'
  | o => o
theorem v_sq (a b : am_T) (env : List AV) (μ : am_M) : s_sq a b env μ = sqk (a env μ) b := (rfl)
theorem sqk_l (env : List AV) (μ : am_M) (b : am_T) : sqk (some (.inl (env, μ))) b = b env μ := (rfl)
theorem sqk_r (o : Option AV × am_M) (b : am_T) : sqk (some (.inr o)) b = some (.inr o) := (rfl)
def kif (a b : am_T) (env : List AV) (z : Bool) (μ : am_M) : Option ((List AV × am_M) ⊕ (Option AV × am_M)) := if z then a env μ else b env μ
theorem v_if (c : am_B) (a b : am_T) (env : List AV) (μ : am_M) : s_if c a b env μ = am_bd (c env μ) (kif a b env) := (rfl)
theorem kif_t (a b : am_T) (env : List AV) (μ : am_M) : kif a b env true μ = a env μ := (rfl)
theorem kif_f (a b : am_T) (env : List AV) (μ : am_M) : kif a b env false μ = b env μ := (rfl)
def nok (o : Option ((List AV × am_M) ⊕ (Option AV × am_M))) : Option ((List AV × am_M) ⊕ (Option AV × am_M)) := match o with
  | some (.inr o) => some (.inr o)
  | _ => none
theorem v_no (a : am_T) (env : List AV) (μ : am_M) : s_no a env μ = nok (a env μ) := (rfl)
theorem nok_r (o : Option AV × am_M) : nok (some (.inr o)) = some (.inr o) := (rfl)
def bkk (o : Option ((List AV × am_M) ⊕ (Option AV × am_M))) (env : List AV) : Option ((List AV × am_M) ⊕ (Option AV × am_M)) := match o with
  | some (.inl (env', μ')) => some (.inl (env'.take env.length, μ'))
  | o => o
theorem v_bk (a : am_T) (env : List AV) (μ : am_M) : s_bk a env μ = bkk (a env μ) env := (rfl)
theorem bkk_l (env' : List AV) (μ : am_M) (env : List AV) : bkk (some (.inl (env', μ))) env = some (.inl (env'.take env.length, μ)) := (rfl)
theorem bkk_r (o : Option AV × am_M) (env : List AV) : bkk (some (.inr o)) env = some (.inr o) := (rfl)
def krI (v : AV) (μ : am_M) : Option ((List AV × am_M) ⊕ (Option AV × am_M)) := match v with
  | .inl x => some (.inr (some (vI x), μ))
  | _ => none
theorem v_rtI (a : am_X) (env : List AV) (μ : am_M) : s_rt .ireturn a env μ = am_bd (a env μ) krI := s_rt_I a env μ
theorem krI_s (x : Int32) (μ : am_M) : krI (vI x) μ = some (.inr (some (vI x), μ)) := (rfl)
def krL (v : AV) (μ : am_M) : Option ((List AV × am_M) ⊕ (Option AV × am_M)) := match v with
  | .inr (.inl x) => some (.inr (some (vL x), μ))
  | _ => none
theorem v_rtL (a : am_X) (env : List AV) (μ : am_M) : s_rt .lreturn a env μ = am_bd (a env μ) krL := s_rt_L a env μ
theorem krL_s (x : Int64) (μ : am_M) : krL (vL x) μ = some (.inr (some (vL x), μ)) := (rfl)
theorem v_rv (env : List AV) (μ : am_M) : s_rv env μ = some (.inr (none, μ)) := (rfl)
def ksw2 (o : Option am_T) (env : List AV) (μ : am_M) : Option ((List AV × am_M) ⊕ (Option AV × am_M)) := match o with
  | some f => s_no f env μ
  | none => none
def ksw (lo : Int) (ks : List Nat) (kd : Nat) (bs : List am_T) (env : List AV) (v : AV) (μ : am_M) : Option ((List AV × am_M) ⊕ (Option AV × am_M)) := match v with
  | .inl x => ksw2 (bs[am_wh lo ks kd x]?) env μ
  | _ => none
theorem v_sw (lo : Int) (ks : List Nat) (kd : Nat) (a : am_X) (bs : List am_T) (env : List AV) (μ : am_M) : s_sw lo ks kd a bs env μ = am_bd (a env μ) (ksw lo ks kd bs env) := (rfl)
theorem ksw_I (lo : Int) (ks : List Nat) (kd : Nat) (bs : List am_T) (env : List AV) (x : Int32) (μ : am_M) : ksw lo ks kd bs env (vI x) μ = ksw2 (bs[am_wh lo ks kd x]?) env μ := (rfl)
theorem ksw2_s (f : am_T) (env : List AV) (μ : am_M) : ksw2 (some f) env μ = s_no f env μ := (rfl)
def fnr (z : Bool) (r : Option AV) (μ : am_M) : Option (Option AV × am_M) := if z = true then some (r, μ) else none
def fnk (ret : Option FieldType) (o : Option ((List AV × am_M) ⊕ (Option AV × am_M))) : Option (Option AV × am_M) := match o with
  | some (.inr (r, μ')) => fnr (am_nr ret r) r μ'
  | _ => none
def fnl (z : Bool) (ret : Option FieldType) (f : am_T) (env : List AV) (μ : am_M) : Option (Option AV × am_M) := if z = true then fnk ret (f env μ) else none
theorem v_fn (nL : Nat) (ret : Option FieldType) (f : am_T) (as : List AV) (μ : am_M) : am_fn nL ret f as μ = fnl (decide ((am_en as).length ≤ nL)) ret f (am_en as) μ := by
  unfold am_fn fnl fnk fnr
  by_cases h : (am_en as).length ≤ nL
  · simp only [h, decide_true, if_true]
    rfl
  · simp only [h, decide_false, if_false, Bool.false_eq_true]
theorem fnl_t (ret : Option FieldType) (f : am_T) (env : List AV) (μ : am_M) : fnl true ret f env μ = fnk ret (f env μ) := (rfl)
theorem fnk_r (ret : Option FieldType) (r : Option AV) (μ : am_M) : fnk ret (some (.inr (r, μ))) = fnr (am_nr ret r) r μ := (rfl)
theorem fnr_t (r : Option AV) (μ : am_M) : fnr true r μ = some (r, μ) := (rfl)
theorem nr_I (x : Int32) : am_nr (some .int) (some (vI x)) = true := (rfl)
theorem nr_L (x : Int64) : am_nr (some .long) (some (vL x)) = true := (rfl)
theorem nr_n : am_nr none none = true := (rfl)
theorem nr_b (b : Bool) : am_nr (some .boolean) (some (vI (bI b))) = true := by cases b <;> rfl
theorem nr_0 : am_nr (some .boolean) (some (vI (nI 0))) = true := (rfl)
theorem nr_1 : am_nr (some .boolean) (some (vI (nI 1))) = true := (rfl)
theorem nr_R (s : String) (x : Nat) : am_nr (some (.object s)) (some (vR x)) = true := (rfl)
def clk (z y : Bool) (f : am_F) (vs : List AV) (μ : am_M) : Option (Option AV × am_M) := if z = true ∧ y = true then f vs μ else none
theorem v_cl (Sh : List am_SC) (ci n : Nat) (f : am_F) (b : AV) (as : List AV) (μ : am_M) : am_cl Sh ci n f (b :: as) μ = clk (decide (as.length = n)) (am_ck Sh ci b) f (b :: as) μ := by
  unfold am_cl clk
  simp only [decide_eq_true_eq]
theorem v_cs (n : Nat) (f : am_F) (vs : List AV) (μ : am_M) : am_cs n f vs μ = clk (decide (vs.length = n)) true f vs μ := by
  unfold am_cs clk
  simp only [decide_eq_true_eq, and_true]
theorem clk_t (f : am_F) (vs : List AV) (μ : am_M) : clk true true f vs μ = f vs μ := (rfl)
theorem m2_I (f : Int32 → Int32 → Int32) (x y : Int32) (μ : am_M) : am_m2 f [vI x, vI y] μ = some (some (vI (f x y)), μ) := (rfl)
theorem m1_I (f : Int32 → Int32) (x : Int32) (μ : am_M) : am_m1 f [vI x] μ = some (some (vI (f x)), μ) := (rfl)
def sik (z : Bool) (env : List AV) (i : Nat) (v : AV) : Option (List AV) := if z = true then some (am_se env i v) else none
theorem v_si (nL i : Nat) (env : List AV) (x : Int32) : o_si nL i env (vI x) = sik (decide (i ≤ env.length ∧ i < nL ∧ am_nl env i = true)) env i (vI x) := by
  unfold o_si sik
  simp only [decide_eq_true_eq]
theorem v_sr (nL i : Nat) (env : List AV) (x : Nat) : o_sr nL i env (vR x) = sik (decide (i ≤ env.length ∧ i < nL ∧ am_nl env i = true)) env i (vR x) := by
  unfold o_sr sik
  simp only [decide_eq_true_eq]
theorem sik_t (env : List AV) (i : Nat) (v : AV) : sik true env i v = some (am_se env i v) := (rfl)
def slk (z : Bool) (env : List AV) (i : Nat) (x : Int64) : Option (List AV) := if z = true then some (am_se (am_se env i (vL x)) (i + 1) vU) else none
theorem v_sl (nL i : Nat) (env : List AV) (x : Int64) : o_sl nL i env (vL x) = slk (decide (i ≤ env.length ∧ i + 1 < nL ∧ am_nl env i = true)) env i x := by
  unfold o_sl slk
  simp only [decide_eq_true_eq]
theorem slk_t (env : List AV) (i : Nat) (x : Int64) : slk true env i x = some (am_se (am_se env i (vL x)) (i + 1) vU) := (rfl)
def inck (o : Option AV) (nL i : Nat) (d : Int32) (env : List AV) : Option (List AV) := match o with
  | some (.inl x) => sik (decide (i < nL ∧ am_nl env i = true)) env i (vI (x + d))
  | _ => none
theorem v_oinc (nL i : Nat) (d : Int32) (env : List AV) : o_inc nL i d env = inck (env[i]?) nL i d env := by
  unfold o_inc inck sik
  simp only [decide_eq_true_eq]
  rfl
theorem inck_s (x : Int32) (nL i : Nat) (d : Int32) (env : List AV) : inck (some (vI x)) nL i d env = sik (decide (i < nL ∧ am_nl env i = true)) env i (vI (x + d)) := (rfl)
theorem se_0 (x a : AV) (l : List AV) : am_se (x :: l) 0 a = a :: l := (rfl)
theorem se_n (i : Nat) (a : AV) : am_se [] i a = [a] := by unfold am_se; simp
theorem se_s (x : AV) (l : List AV) (i : Nat) (a : AV) : am_se (x :: l) (i + 1) a = x :: am_se l i a := by
  unfold am_se
  by_cases h : i < l.length
  · rw [if_pos h, if_pos (by simp only [List.length_cons]; omega)]; rfl
  · rw [if_neg h, if_neg (by simp only [List.length_cons]; omega)]; rfl
def nlo (o : Option AV) : Bool := match o with
  | some (.inr (.inl _)) => false
  | _ => true
theorem v_nl (env : List AV) (j : Nat) : am_nl env (j + 1) = nlo (env[j]?) := (rfl)
theorem v_nl0 (env : List AV) : am_nl env 0 = true := (rfl)
theorem nlo_I (x : Int32) : nlo (some (vI x)) = true := (rfl)
theorem nlo_R (x : Nat) : nlo (some (vR x)) = true := (rfl)
theorem nlo_U : nlo (some vU) = true := (rfl)
theorem nlo_n : nlo none = true := (rfl)
theorem v_ii (f : Int32 → Int32 → Int32) (x y : Int32) (μ : am_M) : o_ii f (vI x) (vI y) μ = some (vI (f x y)) := (rfl)
theorem v_jj (f : Int64 → Int64 → Int64) (x y : Int64) (μ : am_M) : o_jj f (vL x) (vL y) μ = some (vL (f x y)) := (rfl)
theorem v_ji (f : Int64 → Int32 → Int64) (x : Int64) (y : Int32) (μ : am_M) : o_ji f (vL x) (vI y) μ = some (vL (f x y)) := (rfl)
theorem v_jc (x y : Int64) (μ : am_M) : o_jc (vL x) (vL y) μ = some (vI (lg_cmp x y)) := (rfl)
theorem v_iz (f : Int32 → Int32 → Int32) (x : Int32) {d : Nat} (h0 : 0 < d) (hd : d < 2 ^ 31) (μ : am_M) : o_iz f (vI x) (vI (nI d)) μ = some (vI (f x (nI d))) := by
  show (if nI d = 0 then none else some (vI (f x (nI d)))) = _
  rw [if_neg (nI_ne0 h0 hd)]
theorem v_iu (f : Int32 → Int32) (x : Int32) (μ : am_M) : o_iu f (vI x) μ = some (vI (f x)) := (rfl)
theorem v_i2l (x : Int32) (μ : am_M) : o_i2l (vI x) μ = some (vL x.toInt64) := (rfl)
theorem c0_eq (x : Int32) : am_c0 .eq x = decide (x = nI 0) := (rfl)
theorem c0_ne (x : Int32) : am_c0 .ne x = decide (¬ x = nI 0) := (rfl)
theorem c0_lt (x : Int32) : am_c0 .lt x = decide (x < nI 0) := (rfl)
theorem c0_ge (x : Int32) : am_c0 .ge x = decide (nI 0 ≤ x) := (rfl)
theorem c0_gt (x : Int32) : am_c0 .gt x = decide (nI 0 < x) := (rfl)
theorem c0_le (x : Int32) : am_c0 .le x = decide (x ≤ nI 0) := (rfl)
theorem c2_eq (x y : Int32) : am_c2 .eq x y = decide (x = y) := (rfl)
theorem c2_ne (x y : Int32) : am_c2 .ne x y = decide (¬ x = y) := (rfl)
theorem c2_lt (x y : Int32) : am_c2 .lt x y = decide (x < y) := (rfl)
theorem c2_ge (x y : Int32) : am_c2 .ge x y = decide (y ≤ x) := (rfl)
theorem c2_gt (x y : Int32) : am_c2 .gt x y = decide (y < x) := (rfl)
theorem c2_le (x y : Int32) : am_c2 .le x y = decide (x ≤ y) := (rfl)
theorem en_n : am_en [] = [] := (rfl)
theorem en_I (x : Int32) (t : List AV) : am_en (vI x :: t) = vI x :: am_en t := (rfl)
theorem en_R (x : Nat) (t : List AV) : am_en (vR x :: t) = vR x :: am_en t := (rfl)
theorem en_L (x : Int64) (t : List AV) : am_en (vL x :: t) = vL x :: vU :: am_en t := (rfl)
theorem bt_c {c : am_B} {b : am_T} {env : List AV} {μ : am_M} (h : c env μ = some (true, μ)) : s_lp c b env μ = sqk (b env μ) (s_lp c b) := by
  rw [s_lp_eq, h]
  rfl
theorem bf_c {c : am_B} {b : am_T} {env : List AV} {μ : am_M} (h : c env μ = some (false, μ)) : s_lp c b env μ = some (.inl (env, μ)) := by
  rw [s_lp_eq, h]
  rfl
/-! step by step -/
theorem sq_l {a b : am_T} {env env' : List AV} {μ μ' : am_M} {o : Option ((List AV × am_M) ⊕ (Option AV × am_M))} (h : a env μ = some (.inl (env', μ'))) (k : b env' μ' = o) : s_sq a b env μ = o := by rw [v_sq, h]; exact k
theorem sq_r {a b : am_T} {env : List AV} {μ : am_M} {r : Option AV × am_M} (h : a env μ = some (.inr r)) : s_sq a b env μ = some (.inr r) := by rw [v_sq, h]; rfl
theorem bk_l {a : am_T} {env env' : List AV} {μ μ' : am_M} (h : a env μ = some (.inl (env', μ'))) : s_bk a env μ = some (.inl (env'.take env.length, μ')) := by rw [v_bk, h]; rfl
theorem bk_r {a : am_T} {env : List AV} {μ : am_M} {r : Option AV × am_M} (h : a env μ = some (.inr r)) : s_bk a env μ = some (.inr r) := by rw [v_bk, h]; rfl
theorem fn_r {nL : Nat} {ret : Option FieldType} {f : am_T} {as : List AV} {μ μ' : am_M} {r : Option AV} (h : f (am_en as) μ = some (.inr (r, μ'))) (h1 : (am_en as).length ≤ nL) (h2 : am_nr ret r = true) : am_fn nL ret f as μ = some (r, μ') := by
  unfold am_fn
  rw [if_pos h1, h]
  simp [h2]
