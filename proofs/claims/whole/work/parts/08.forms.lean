/-! arguments, calls, statements -/
def a_0 : am_L := fun _ μ => some ([], μ)
def a_1 (a : am_X) (b : am_L) : am_L := fun env μ => am_bd (a env μ) fun v μ => am_bd (b env μ) fun vs μ => some (v :: vs, μ)
theorem ok_a0 {S : am_S} : am_OkA S [] 0 a_0 := by
  intro G hO pc hf env st μ vs μ' hv hr k
  cases hv
  exact k
theorem ok_a1 {S : am_S} {fa fb : List am_I} {ra rb : Nat} {f : am_X} {g : am_L} (ha : am_OkX S fa ra f) (hb : am_OkA S fb rb g) : am_OkA S (fa ++ fb) (max ra (rb + min rb 1)) (a_1 f g) := by
  intro G hO pc hf env st μ vs μ' hv hr k
  obtain ⟨h1, h2⟩ := am_fit_app hf
  obtain ⟨a, μ1, ha1, hv⟩ := am_bd_ok hv
  obtain ⟨b, μ2, hb1, hv⟩ := am_bd_ok hv
  cases hv
  refine ha G hO pc h1 env st μ a μ1 ha1 (by omega) (hb G hO _ h2 env (a :: st) μ1 b _ hb1 (by simp only [List.length_cons]; omega) ?_)
  rw [am_sz_app, ← Nat.add_assoc, List.reverse_cons, List.append_assoc] at k
  exact k
def x_a0 {S : am_S} : am_AP S := ⟨([], 0, a_0), ok_a0⟩
def x_a1 {S : am_S} (a : am_XP S) (b : am_AP S) : am_AP S := ⟨(a.1.1 ++ b.1.1, max a.1.2.1 (b.1.2.1 + min b.1.2.1 1), a_1 a.1.2.2 b.1.2.2), ok_a1 a.2 b.2⟩
abbrev am_F : Type := List AV → am_M → Option (Option AV × am_M)
/-- a call on an object of class ci: the receiver is the first of the arguments -/
def am_cl (Sh : List am_SC) (ci n : Nat) (f : am_F) (vs : List AV) (μ : am_M) : Option (Option AV × am_M) := match vs with
  | b :: as => if as.length = n ∧ am_ck Sh ci b = true then f (b :: as) μ else none
  | [] => none
def am_cs (n : Nat) (f : am_F) (vs : List AV) (μ : am_M) : Option (Option AV × am_M) := if vs.length = n then f vs μ else none
/-- a call row: takes the arguments, gives the answer -/
def am_IC (S : am_S) (i : am_I) (g : List AV → am_M → Option (Option AV × am_M)) : Prop := ∀ (G : am_G), am_Ok S G → ∀ (pc : Nat), am_fit S.2.1 pc [i] → ∀ (env st : List AV) (μ μ' : am_M) (vs : List AV) (r : Option AV), st.length ≤ 4 → g vs μ = some (r, μ') → am_Wn S G (pc + i.2.1) env (r.toList ++ st) μ' → am_Wn S G pc env (vs.reverse ++ st) μ
theorem ic_V {S : am_S} {y : MethodName} {cb : ByteArray} {nb n dc ci : Nat} {ret : Option FieldType} {f : am_F} (hM : am_Sd S.1 y cb nb ret dc f) (hy : am_Ky y cb nb ret n) (hv : am_KV y ci) (hdc : dc + 1 ≤ S.2.2.2.1) (idx q : Nat) (host : Option String) : am_IC S (.invokevirtual idx, 3, some (q, am_lk S.2.2.2.2 idx y host)) (am_cl S.1 ci n f) := by
  intro G hO pc hf env st μ μ' vs r hst hw k
  unfold am_cl at hw
  split at hw
  · rename_i b as
    split at hw
    · rename_i hc
      have h1 := is_callV hM hy hv hdc idx q host hO hf (env := env) (st := st) (as := as) (b := b) hc.1 hc.2 hst hw k
      rw [List.reverse_cons, List.append_assoc]
      exact h1
    · cases hw
  · cases hw
theorem ic_S {S : am_S} {y : MethodName} {cb : ByteArray} {nb n dc : Nat} {ret : Option FieldType} {f : am_F} (hM : am_Sd S.1 y cb nb ret dc f) (hy : am_Ky y cb nb ret n) (hv : am_KS y) (hdc : dc + 1 ≤ S.2.2.2.1) (idx q : Nat) (host : Option String) : am_IC S (.invokestatic idx, 3, some (q, am_lk S.2.2.2.2 idx y host)) (am_cs n f) := by
  intro G hO pc hf env st μ μ' vs r hst hw k
  unfold am_cs at hw
  split at hw
  · rename_i hc
    exact is_callS hM hy hv hdc idx q host hO hf (env := env) (st := st) (as := vs) hc hst hw k
  · cases hw
def e_k (g : List AV → am_M → Option (Option AV × am_M)) (a : am_L) : am_X := fun env μ => am_bd (a env μ) fun vs μ => match g vs μ with
  | some (some v, μ) => some (v, μ)
  | _ => none
theorem ok_k {S : am_S} {i : am_I} {g : List AV → am_M → Option (Option AV × am_M)} (h : am_IC S i g) {fr : List am_I} {r : Nat} {f : am_L} (ha : am_OkA S fr r f) : am_OkX S (fr ++ [i]) (max r 1) (e_k g f) := by
  intro G hO pc hf env st μ v μ' hv hr k
  obtain ⟨h1, h2⟩ := am_fit_app hf
  obtain ⟨vs, μ1, ha1, hv⟩ := am_bd_ok hv
  rw [am_sz_app, ← Nat.add_assoc] at k
  split at hv
  · rename_i w μ2 hw
    cases hv
    exact ha G hO pc h1 env st μ vs μ1 ha1 (by omega) (h G hO _ h2 env st μ1 _ vs _ (by omega) hw k)
  · cases hv
def x_k {S : am_S} (i : am_I) (g : List AV → am_M → Option (Option AV × am_M)) (h : am_IC S i g) (a : am_AP S) : am_XP S := ⟨(a.1.1 ++ [i], max a.1.2.1 1, e_k g a.1.2.2), ok_k h a.2⟩
/-! statements -/
def s_k (g : List AV → am_M → Option (Option AV × am_M)) (a : am_L) : am_T := fun env μ => am_bd (a env μ) fun vs μ => match g vs μ with
  | some (none, μ) => some (.inl (env, μ))
  | _ => none
theorem ok_sk {S : am_S} {i : am_I} {g : List AV → am_M → Option (Option AV × am_M)} (h : am_IC S i g) {fr : List am_I} {r : Nat} {f : am_L} (ha : am_OkA S fr r f) : am_OkS S (fr ++ [i]) (max r 1) (s_k g f) := by
  intro hr G hO pc hf env μ o hv k
  obtain ⟨h1, h2⟩ := am_fit_app hf
  obtain ⟨vs, μ1, ha1, hv⟩ := am_bd_ok hv
  rw [am_sz_app, ← Nat.add_assoc] at k
  split at hv
  · rename_i μ2 hw
    cases hv
    exact ha G hO pc h1 env [] μ vs μ1 ha1 (by simp only [List.length_nil]; omega) (h G hO _ h2 env [] μ1 _ vs none (by simp) hw k)
  · cases hv
def t_k {S : am_S} (i : am_I) (g : List AV → am_M → Option (Option AV × am_M)) (h : am_IC S i g) (a : am_AP S) : am_SP S := ⟨(a.1.1 ++ [i], max a.1.2.1 1, s_k g a.1.2.2), ok_sk h a.2⟩
def s_pop (a : am_X) : am_T := fun env μ => am_bd (a env μ) fun v μ => if am_c1 v = true then some (.inl (env, μ)) else none
theorem ok_pop {S : am_S} {fr : List am_I} {r : Nat} {f : am_X} (ha : am_OkX S fr r f) : am_OkS S (fr ++ [(.pop, 1, none)]) r (s_pop f) := by
  intro hr G hO pc hf env μ o hv k
  obtain ⟨h1, h2⟩ := am_fit_app hf
  obtain ⟨v, μ1, ha1, hv⟩ := am_bd_ok hv
  rw [am_sz_app, ← Nat.add_assoc] at k
  split at hv
  · rename_i hc
    cases hv
    exact ha G hO pc h1 env [] μ v μ1 ha1 (by simp only [List.length_nil]; omega) (is_pop hO h2 hc k)
  · cases hv
def t_pop {S : am_S} (a : am_XP S) : am_SP S := ⟨(a.1.1 ++ [(.pop, 1, none)], a.1.2.1, s_pop a.1.2.2), ok_pop a.2⟩
def s_as (op : List AV → AV → Option (List AV)) (a : am_X) : am_T := fun env μ => am_bd (a env μ) fun v μ => (op env v).map (fun env' => .inl (env', μ))
theorem ok_as {S : am_S} {i : am_I} {op : List AV → AV → Option (List AV)} (h : am_IT S i op) {fr : List am_I} {r : Nat} {f : am_X} (ha : am_OkX S fr r f) : am_OkS S (fr ++ [i]) r (s_as op f) := by
  intro hr G hO pc hf env μ o hv k
  obtain ⟨h1, h2⟩ := am_fit_app hf
  obtain ⟨v, μ1, ha1, hv⟩ := am_bd_ok hv
  obtain ⟨env', he, hv⟩ := am_map_ok hv
  subst hv
  rw [am_sz_app, ← Nat.add_assoc] at k
  exact ha G hO pc h1 env [] μ v μ1 ha1 (by simp only [List.length_nil]; omega) (h G hO _ h2 env env' [] μ1 v he k)
def t_as {S : am_S} (i : am_I) (op : List AV → AV → Option (List AV)) (h : am_IT S i op) (a : am_XP S) : am_SP S := ⟨(a.1.1 ++ [i], a.1.2.1, s_as op a.1.2.2), ok_as h a.2⟩
def s_inc (nL i : Nat) (d : Int32) : am_T := fun env μ => (o_inc nL i d env).map (fun env' => .inl (env', μ))
theorem ok_inc {S : am_S} (i : Nat) (n : Int) (d : Int32) (hd : Int32.ofInt n = d) : am_OkS S [(.iinc i n, 3, none)] 0 (s_inc S.2.2.1 i d) := by
  intro hr G hO pc hf env μ o hv k
  obtain ⟨env', he, hv⟩ := am_map_ok hv
  subst hv
  exact it_iinc i n d hd hO hf he k
def t_inc {S : am_S} (i : Nat) (n : Int) (d : Int32) (hd : Int32.ofInt n = d) : am_SP S := ⟨([(.iinc i n, 3, none)], 0, s_inc S.2.2.1 i d), ok_inc i n d hd⟩
/-- what putfield needs of the tables -/
def am_KP (ci j : Nat) (b : Bool) : Prop := vwCl[ci]? = some (am_cn ci) ∧ j < (am_cn ci).2.2 ∧ ((am_cn ci).2.1 j).2.2.2 = false ∧ parseFieldDescriptor ((am_cn ci).2.1 j).2.2.1 = some (if b then .boolean else .int)
theorem is_put' {S : am_S} {idx ci j q : Nat} {b : Bool} (hp : am_KP ci j b) {G : am_G} (hO : am_Ok S G) {pc : Nat} (hf : am_fit S.2.1 pc [(.putfield idx, 3, some (q, am_fl S.2.2.2.2 idx ci j))]) {env st : List AV} {μ μ' : am_M} {a v : AV} (hw : am_pv S.1 ci j b a v μ = some μ') (k : am_Wn S G (pc + 3) env st μ') : am_Wn S G pc env (v :: a :: st) μ := by
  obtain ⟨h1, h2, h3, h4⟩ := hp
  refine is_put idx ci j q b _ h1 h2 h3 h4 ?_ hO hf hw k
  cases b
  · exact Or.inl ⟨rfl, rfl⟩
  · exact Or.inr ⟨rfl, rfl⟩
def s_pf (Sh : List am_SC) (ci j : Nat) (b : Bool) (a e : am_X) : am_T := fun env μ => am_bd (a env μ) fun x μ => am_bd (e env μ) fun v μ => (am_pv Sh ci j b x v μ).map (fun μ' => .inl (env, μ'))
theorem ok_pf {S : am_S} {idx ci j q : Nat} {b : Bool} (hp : am_KP ci j b) {fa fb : List am_I} {ra rb : Nat} {f g : am_X} (ha : am_OkX S fa ra f) (hb : am_OkX S fb rb g) : am_OkS S (fa ++ (fb ++ [(.putfield idx, 3, some (q, am_fl S.2.2.2.2 idx ci j))])) (max ra (rb + min rb 1)) (s_pf S.1 ci j b f g) := by
  intro hr G hO pc hf env μ o hv k
  obtain ⟨h1, h2⟩ := am_fit_app hf
  obtain ⟨h2, h3⟩ := am_fit_app h2
  obtain ⟨x, μ1, ha1, hv⟩ := am_bd_ok hv
  obtain ⟨v, μ2, hb1, hv⟩ := am_bd_ok hv
  obtain ⟨μ3, he, hv⟩ := am_map_ok hv
  subst hv
  rw [am_sz_app, am_sz_app, ← Nat.add_assoc, ← Nat.add_assoc] at k
  exact ha G hO pc h1 env [] μ x μ1 ha1 (by simp only [List.length_cons, List.length_nil]; omega) (hb G hO _ h2 env [x] μ1 v μ2 hb1 (by simp only [List.length_cons, List.length_nil]; omega) (is_put' hp hO h3 he k))
def t_pf {S : am_S} (idx ci j q : Nat) (b : Bool) (hp : am_KP ci j b) (a e : am_XP S) : am_SP S := ⟨(a.1.1 ++ (e.1.1 ++ [(.putfield idx, 3, some (q, am_fl S.2.2.2.2 idx ci j))]), max a.1.2.1 (e.1.2.1 + min e.1.2.1 1), s_pf S.1 ci j b a.1.2.2 e.1.2.2), ok_pf hp a.2 e.2⟩
/-- a.f op= e -/
def s_po (Sh : List am_SC) (ci j : Nat) (b : Bool) (op : AV → AV → am_M → Option AV) (a e : am_X) : am_T := fun env μ => am_bd (a env μ) fun x μ => if am_c1 x = true then (match am_gv Sh ci j x μ with
  | some u => am_bd (e env μ) fun v μ => (match op u v μ with
    | some w => (am_pv Sh ci j b x w μ).map (fun μ' => .inl (env, μ'))
    | none => none)
  | none => none) else none
theorem ok_po {S : am_S} {idx ci j q q2 : Nat} {b : Bool} (hp : am_KP ci j b) {i : am_I} {op : AV → AV → am_M → Option AV} (hi : am_IB S i op) {fa fb : List am_I} {ra rb : Nat} {f g : am_X} (ha : am_OkX S fa ra f) (hb : am_OkX S fb rb g) : am_OkS S (fa ++ ([(.dup, 1, none)] ++ ([(.getfield idx, 3, some (q, am_fl S.2.2.2.2 idx ci j))] ++ (fb ++ ([i] ++ [(.putfield idx, 3, some (q2, am_fl S.2.2.2.2 idx ci j))]))))) (max ra (rb + 2 * min rb 1)) (s_po S.1 ci j b op f g) := by
  intro hr G hO pc hf env μ o hv k
  obtain ⟨h1, h2⟩ := am_fit_app hf
  obtain ⟨h2, h3⟩ := am_fit_app h2
  obtain ⟨h3, h4⟩ := am_fit_app h3
  obtain ⟨h4, h5⟩ := am_fit_app h4
  obtain ⟨h5, h6⟩ := am_fit_app h5
  obtain ⟨x, μ1, ha1, hv⟩ := am_bd_ok hv
  rw [am_sz_app, am_sz_app, am_sz_app, am_sz_app, am_sz_app, ← Nat.add_assoc, ← Nat.add_assoc, ← Nat.add_assoc, ← Nat.add_assoc, ← Nat.add_assoc] at k
  split at hv
  · rename_i hc
    split at hv
    · rename_i u hu
      obtain ⟨v, μ2, hb1, hv⟩ := am_bd_ok hv
      split at hv
      · rename_i w hw
        obtain ⟨μ3, he, hv⟩ := am_map_ok hv
        subst hv
        exact ha G hO pc h1 env [] μ x μ1 ha1 (by simp only [List.length_cons, List.length_nil]; omega) (is_dup hO h2 hc (iu_get idx ci j q hp.1 hp.2.1 G hO _ h3 env [x] μ1 x u hu (hb G hO _ h4 env [u, x] μ1 v μ2 hb1 (by simp only [List.length_cons, List.length_nil]; omega) (hi G hO _ h5 env [x] μ2 u v w hw (is_put' hp hO h6 he k)))))
      · cases hv
    · cases hv
  · cases hv
def t_po {S : am_S} (idx ci j q q2 : Nat) (b : Bool) (hp : am_KP ci j b) (i : am_I) (op : AV → AV → am_M → Option AV) (hi : am_IB S i op) (a e : am_XP S) : am_SP S := ⟨(a.1.1 ++ ([(.dup, 1, none)] ++ ([(.getfield idx, 3, some (q, am_fl S.2.2.2.2 idx ci j))] ++ (e.1.1 ++ ([i] ++ [(.putfield idx, 3, some (q2, am_fl S.2.2.2.2 idx ci j))])))), max a.1.2.1 (e.1.2.1 + 2 * min e.1.2.1 1), s_po S.1 ci j b op a.1.2.2 e.1.2.2), ok_po hp hi a.2 e.2⟩
/-- a[i] = e -/
def s_ia (Sh : List am_SC) (a i e : am_X) : am_T := fun env μ => am_bd (a env μ) fun x μ => am_bd (i env μ) fun j μ => am_bd (e env μ) fun v μ => (am_wv Sh x j v μ).map (fun μ' => .inl (env, μ'))
theorem ok_ia {S : am_S} {fa fi fb : List am_I} {ra ri rb : Nat} {f h g : am_X} (ha : am_OkX S fa ra f) (hi : am_OkX S fi ri h) (hb : am_OkX S fb rb g) : am_OkS S (fa ++ (fi ++ (fb ++ [(.iastore, 1, none)]))) (max ra (max (ri + min ri 1) (rb + 2 * min rb 1))) (s_ia S.1 f h g) := by
  intro hr G hO pc hf env μ o hv k
  obtain ⟨h1, h2⟩ := am_fit_app hf
  obtain ⟨h2, h3⟩ := am_fit_app h2
  obtain ⟨h3, h4⟩ := am_fit_app h3
  obtain ⟨x, μ1, ha1, hv⟩ := am_bd_ok hv
  obtain ⟨j, μ2, hi1, hv⟩ := am_bd_ok hv
  obtain ⟨v, μ3, hb1, hv⟩ := am_bd_ok hv
  obtain ⟨μ4, he, hv⟩ := am_map_ok hv
  subst hv
  rw [am_sz_app, am_sz_app, am_sz_app, ← Nat.add_assoc, ← Nat.add_assoc, ← Nat.add_assoc] at k
  exact ha G hO pc h1 env [] μ x μ1 ha1 (by simp only [List.length_cons, List.length_nil]; omega) (hi G hO _ h2 env [x] μ1 j μ2 hi1 (by simp only [List.length_cons, List.length_nil]; omega) (hb G hO _ h3 env [j, x] μ2 v μ3 hb1 (by simp only [List.length_cons, List.length_nil]; omega) (is_iast hO h4 he k)))
def t_ia {S : am_S} (a i e : am_XP S) : am_SP S := ⟨(a.1.1 ++ (i.1.1 ++ (e.1.1 ++ [(.iastore, 1, none)])), max a.1.2.1 (max (i.1.2.1 + min i.1.2.1 1) (e.1.2.1 + 2 * min e.1.2.1 1)), s_ia S.1 a.1.2.2 i.1.2.2 e.1.2.2), ok_ia a.2 i.2 e.2⟩
/-- a[i] op= e -/
def s_io (Sh : List am_SC) (op : AV → AV → am_M → Option AV) (a i e : am_X) : am_T := fun env μ => am_bd (a env μ) fun x μ => am_bd (i env μ) fun j μ => if am_c1 x = true ∧ am_c1 j = true then (match am_lv Sh x j μ with
  | some u => am_bd (e env μ) fun v μ => (match op u v μ with
    | some w => (am_wv Sh x j w μ).map (fun μ' => .inl (env, μ'))
    | none => none)
  | none => none) else none
theorem ok_io {S : am_S} {i : am_I} {op : AV → AV → am_M → Option AV} (hp : am_IB S i op) {fa fi fb : List am_I} {ra ri rb : Nat} {f h g : am_X} (ha : am_OkX S fa ra f) (hi : am_OkX S fi ri h) (hb : am_OkX S fb rb g) : am_OkS S (fa ++ (fi ++ ([(.dup2, 1, none)] ++ ([(.iaload, 1, none)] ++ (fb ++ ([i] ++ [(.iastore, 1, none)])))))) (max ra (max (ri + min ri 1) (rb + 3 * min rb 1))) (s_io S.1 op f h g) := by
  intro hr G hO pc hf env μ o hv k
  obtain ⟨h1, h2⟩ := am_fit_app hf
  obtain ⟨h2, h3⟩ := am_fit_app h2
  obtain ⟨h3, h4⟩ := am_fit_app h3
  obtain ⟨h4, h5⟩ := am_fit_app h4
  obtain ⟨h5, h6⟩ := am_fit_app h5
  obtain ⟨h6, h7⟩ := am_fit_app h6
  obtain ⟨x, μ1, ha1, hv⟩ := am_bd_ok hv
  obtain ⟨j, μ2, hi1, hv⟩ := am_bd_ok hv
  rw [am_sz_app, am_sz_app, am_sz_app, am_sz_app, am_sz_app, am_sz_app, ← Nat.add_assoc, ← Nat.add_assoc, ← Nat.add_assoc, ← Nat.add_assoc, ← Nat.add_assoc, ← Nat.add_assoc] at k
  split at hv
  · rename_i hc
    split at hv
    · rename_i u hu
      obtain ⟨v, μ3, hb1, hv⟩ := am_bd_ok hv
      split at hv
      · rename_i w hw
        obtain ⟨μ4, he, hv⟩ := am_map_ok hv
        subst hv
        exact ha G hO pc h1 env [] μ x μ1 ha1 (by simp only [List.length_cons, List.length_nil]; omega) (hi G hO _ h2 env [x] μ1 j μ2 hi1 (by simp only [List.length_cons, List.length_nil]; omega) (is_dup2 hO h3 hc.1 hc.2 (ib_iaload G hO _ h4 env [j, x] μ2 x j u hu (hb G hO _ h5 env [u, j, x] μ2 v μ3 hb1 (by simp only [List.length_cons, List.length_nil]; omega) (hp G hO _ h6 env [j, x] μ3 u v w hw (is_iast hO h7 he k))))))
      · cases hv
    · cases hv
  · cases hv
def t_io {S : am_S} (i : am_I) (op : AV → AV → am_M → Option AV) (hp : am_IB S i op) (a j e : am_XP S) : am_SP S := ⟨(a.1.1 ++ (j.1.1 ++ ([(.dup2, 1, none)] ++ ([(.iaload, 1, none)] ++ (e.1.1 ++ ([i] ++ [(.iastore, 1, none)]))))), max a.1.2.1 (max (j.1.2.1 + min j.1.2.1 1) (e.1.2.1 + 3 * min e.1.2.1 1)), s_io S.1 op a.1.2.2 j.1.2.2 e.1.2.2), ok_io hp a.2 j.2 e.2⟩
/-- System.arraycopy -/
def s_cy (Sh : List am_SC) (a : am_L) : am_T := fun env μ => am_bd (a env μ) fun vs μ => match vs with
  | [x, i, y, j, n] => (am_cy Sh x i y j n μ).map (fun μ' => .inl (env, μ'))
  | _ => none
theorem ok_cy {S : am_S} (idx q : Nat) (hdp : 1 ≤ S.2.2.2.1) {fr : List am_I} {r : Nat} {f : am_L} (ha : am_OkA S fr r f) : am_OkS S (fr ++ [(.invokestatic idx, 3, some (q, .methodLink S.2.2.2.2 idx arraycopyName))]) r (s_cy S.1 f) := by
  intro hr G hO pc hf env μ o hv k
  obtain ⟨h1, h2⟩ := am_fit_app hf
  obtain ⟨vs, μ1, ha1, hv⟩ := am_bd_ok hv
  rw [am_sz_app, ← Nat.add_assoc] at k
  split at hv
  · obtain ⟨μ3, he, hv⟩ := am_map_ok hv
    subst hv
    exact ha G hO pc h1 env [] μ _ μ1 ha1 (by simp only [List.length_nil]; omega) (is_copy idx q hdp hO h2 he k)
  · cases hv
def t_cy {S : am_S} (idx q : Nat) (hdp : 1 ≤ S.2.2.2.1) (a : am_AP S) : am_SP S := ⟨(a.1.1 ++ [(.invokestatic idx, 3, some (q, .methodLink S.2.2.2.2 idx arraycopyName))], a.1.2.1, s_cy S.1 a.1.2.2), ok_cy idx q hdp a.2⟩
/-! flow -/
def s_0 : am_T := fun env μ => some (.inl (env, μ))
def s_sq (a b : am_T) : am_T := fun env μ => match a env μ with
  | some (.inl (env', μ')) => b env' μ'
  | o => o
def s_if (c : am_B) (a b : am_T) : am_T := fun env μ => am_bd (c env μ) fun z μ => if z then a env μ else b env μ
/-- a statement that does not complete -/
def s_no (a : am_T) : am_T := fun env μ => match a env μ with
  | some (.inr o) => some (.inr o)
  | _ => none
def s_bk (a : am_T) : am_T := fun env μ => match a env μ with
  | some (.inl (env', μ')) => some (.inl (env'.take env.length, μ'))
  | o => o
theorem am_Wn.take {S : am_S} {G : am_G} {pc n : Nat} {env st : List AV} {μ : am_M} (k : am_Wn S G pc (env.take n) st μ) : am_Wn S G pc env st μ := by
  obtain ⟨p, l, e, R, s, m, args, below, meth, c, Q, D, cs, ad, A, nc, ns⟩ := G
  intro H locs ls hP hD hS hl
  exact k H locs ls hP hD hS (hl.take n)
theorem ok_s0 {S : am_S} : am_OkS S [] 0 s_0 := by
  intro hr G hO pc hf env μ o hv k
  cases hv
  exact k
theorem ok_sq {S : am_S} {fa fb : List am_I} {ra rb : Nat} {f g : am_T} (ha : am_OkS S fa ra f) (hb : am_OkS S fb rb g) : am_OkS S (fa ++ fb) (max ra rb) (s_sq f g) := by
  intro hr G hO pc hf env μ o hv k
  obtain ⟨h1, h2⟩ := am_fit_app hf
  rw [am_sz_app, ← Nat.add_assoc] at k
  unfold s_sq at hv
  split at hv
  · rename_i env' μ' he
    exact ha (by omega) G hO pc h1 env μ _ he (hb (by omega) G hO _ h2 env' μ' o hv k)
  · rename_i hne
    refine ha (by omega) G hO pc h1 env μ o hv ?_
    rcases o with ⟨env', μ'⟩ | ⟨v, μ'⟩
    · exact absurd hv (hne env' μ')
    · exact k
theorem ok_bk {S : am_S} {fr : List am_I} {r : Nat} {f : am_T} (ha : am_OkS S fr r f) : am_OkS S fr r (s_bk f) := by
  intro hr G hO pc hf env μ o hv k
  unfold s_bk at hv
  split at hv
  · rename_i env' μ' he
    cases hv
    exact ha hr G hO pc hf env μ _ he (am_Wn.take k)
  · exact ha hr G hO pc hf env μ o hv k
theorem ok_no {S : am_S} {fr : List am_I} {r : Nat} {f : am_T} (ha : am_OkS S fr r f) (hr : r ≤ 5) {G : am_G} (hO : am_Ok S G) {pc : Nat} (hf : am_fit S.2.1 pc fr) {env : List AV} {μ : am_M} {o : (List AV × am_M) ⊕ (Option AV × am_M)} (hv : s_no f env μ = some o) (pc' : Nat) (k : am_Kt S G pc' o) : am_Wn S G pc env [] μ := by
  unfold s_no at hv
  split at hv
  · rename_i o' he
    cases hv
    exact ha hr G hO pc hf env μ _ he k
  · cases hv
/-- if, no else -/
theorem ok_if1 {S : am_S} {fF fT : Int → List am_I} {rc : Nat} {fc : am_B} (hc : am_OkC S fF fT rc fc) {fa : List am_I} {ra : Nat} {f : am_T} (ha : am_OkS S fa ra f) : am_OkS S (fF ((am_sz (fF 0) + am_sz fa : Nat) : Int) ++ fa) (max rc ra) (s_if fc f s_0) := by
  intro hr G hO pc hf env μ o hv k
  obtain ⟨h1, h2⟩ := am_fit_app hf
  rw [hc.1] at h2
  obtain ⟨z, μ1, hz, hv⟩ := am_bd_ok hv
  rw [am_sz_app, hc.1] at k
  refine hc.2.2.1 G hO pc _ (pc + (am_sz (fF 0) + am_sz fa)) (by omega) h1 env [] μ z μ1 hz (by simp only [List.length_cons, List.length_nil]; omega) (fun hz1 => ?_) (fun hz1 => ?_)
  · rw [hz1] at hv
    refine ha (by omega) G hO _ h2 env μ1 o hv ?_
    rw [Nat.add_assoc]
    exact k
  · rw [hz1] at hv
    cases hv
    exact k
/-- if, else: the first goes on behind the second -/
theorem ok_if2 {S : am_S} {fF fT : Int → List am_I} {rc : Nat} {fc : am_B} (hc : am_OkC S fF fT rc fc) {fa fb : List am_I} {ra rb : Nat} {f g : am_T} (ha : am_OkS S fa ra f) (hb : am_OkS S fb rb g) : am_OkS S (fF ((am_sz (fF 0) + am_sz fa + 3 : Nat) : Int) ++ (fa ++ ((.goto ((3 + am_sz fb : Nat) : Int), 3, none) :: fb))) (max rc (max ra rb)) (s_if fc f g) := by
  intro hr G hO pc hf env μ o hv k
  obtain ⟨h1, h2⟩ := am_fit_app hf
  rw [hc.1] at h2
  obtain ⟨h2, h3⟩ := am_fit_app h2
  obtain ⟨h3a, h3b, h4⟩ := h3
  obtain ⟨z, μ1, hz, hv⟩ := am_bd_ok hv
  rw [am_sz_app, am_sz_app, hc.1] at k
  have he : am_sz ((Instr.goto ((3 + am_sz fb : Nat) : Int), 3, none) :: fb) = 3 + am_sz fb := rfl
  rw [he] at k
  refine hc.2.2.1 G hO pc _ (pc + am_sz (fF 0) + am_sz fa + 3) (by omega) h1 env [] μ z μ1 hz (by simp only [List.length_cons, List.length_nil]; omega) (fun hz1 => ?_) (fun hz1 => ?_)
  · rw [hz1] at hv
    refine ha (by omega) G hO _ h2 env μ1 o hv ?_
    rcases o with ⟨env', μ'⟩ | ⟨v, μ'⟩
    · exact is_goto hO ⟨h3a, h3b, trivial⟩ (tgt := pc + (am_sz (fF 0) + (am_sz fa + (3 + am_sz fb)))) (by omega) k
    · exact k
  · rw [hz1] at hv
    refine hb (by omega) G hO _ h4 env μ1 o hv ?_
    rw [show pc + am_sz (fF 0) + am_sz fa + 3 + am_sz fb = pc + (am_sz (fF 0) + (am_sz fa + (3 + am_sz fb))) by omega]
    exact k
/-- if, else: the first does not complete -/
theorem ok_if3 {S : am_S} {fF fT : Int → List am_I} {rc : Nat} {fc : am_B} (hc : am_OkC S fF fT rc fc) {fa fb : List am_I} {ra rb : Nat} {f g : am_T} (ha : am_OkS S fa ra f) (hb : am_OkS S fb rb g) : am_OkS S (fF ((am_sz (fF 0) + am_sz fa : Nat) : Int) ++ (fa ++ fb)) (max rc (max ra rb)) (s_if fc (s_no f) g) := by
  intro hr G hO pc hf env μ o hv k
  obtain ⟨h1, h2⟩ := am_fit_app hf
  rw [hc.1] at h2
  obtain ⟨h2, h3⟩ := am_fit_app h2
  obtain ⟨z, μ1, hz, hv⟩ := am_bd_ok hv
  rw [am_sz_app, am_sz_app, hc.1] at k
  refine hc.2.2.1 G hO pc _ (pc + am_sz (fF 0) + am_sz fa) (by omega) h1 env [] μ z μ1 hz (by simp only [List.length_cons, List.length_nil]; omega) (fun hz1 => ?_) (fun hz1 => ?_)
  · rw [hz1] at hv
    exact ok_no ha (by omega) hO h2 hv _ k
  · rw [hz1] at hv
    refine hb (by omega) G hO _ h3 env μ1 o hv ?_
    rw [show pc + am_sz (fF 0) + am_sz fa + am_sz fb = pc + (am_sz (fF 0) + (am_sz fa + am_sz fb)) by omega]
    exact k
def t_0 {S : am_S} : am_SP S := ⟨([], 0, s_0), ok_s0⟩
def t_sq {S : am_S} (a b : am_SP S) : am_SP S := ⟨(a.1.1 ++ b.1.1, max a.1.2.1 b.1.2.1, s_sq a.1.2.2 b.1.2.2), ok_sq a.2 b.2⟩
def t_bk {S : am_S} (a : am_SP S) : am_SP S := ⟨(a.1.1, a.1.2.1, s_bk a.1.2.2), ok_bk a.2⟩
def t_if1 {S : am_S} (c : am_CP S) (a : am_SP S) : am_SP S := ⟨(c.1.1 ((am_sz (c.1.1 0) + am_sz a.1.1 : Nat) : Int) ++ a.1.1, max c.1.2.2.1 a.1.2.1, s_if c.1.2.2.2 a.1.2.2 s_0), ok_if1 c.2 a.2⟩
def t_if2 {S : am_S} (c : am_CP S) (a b : am_SP S) : am_SP S := ⟨(c.1.1 ((am_sz (c.1.1 0) + am_sz a.1.1 + 3 : Nat) : Int) ++ (a.1.1 ++ ((.goto ((3 + am_sz b.1.1 : Nat) : Int), 3, none) :: b.1.1)), max c.1.2.2.1 (max a.1.2.1 b.1.2.1), s_if c.1.2.2.2 a.1.2.2 b.1.2.2), ok_if2 c.2 a.2 b.2⟩
def t_if3 {S : am_S} (c : am_CP S) (a b : am_SP S) : am_SP S := ⟨(c.1.1 ((am_sz (c.1.1 0) + am_sz a.1.1 : Nat) : Int) ++ (a.1.1 ++ b.1.1), max c.1.2.2.1 (max a.1.2.1 b.1.2.1), s_if c.1.2.2.2 (s_no a.1.2.2) b.1.2.2), ok_if3 c.2 a.2 b.2⟩
/-! loops -/
def am_lf (c : am_B) (s : am_T) : Nat → am_T
  | 0 => fun _ _ => none
  | n + 1 => fun env μ => am_bd (c env μ) fun b μ => if b then (match s env μ with
    | some (.inl (env', μ')) => am_lf c s n env' μ'
    | o => o) else some (.inl (env, μ))
theorem am_lf_mono {c : am_B} {s : am_T} : ∀ (n : Nat) (env : List AV) (μ : am_M) (o : (List AV × am_M) ⊕ (Option AV × am_M)), am_lf c s n env μ = some o → am_lf c s (n + 1) env μ = some o := by
  intro n
  induction n with
  | zero => intro env μ o h; cases h
  | succ n ih =>
    intro env μ o h
    unfold am_lf at h ⊢
    obtain ⟨b, μ1, hb, h⟩ := am_bd_ok h
    rw [hb]
    show (if b = true then _ else _) = _
    cases b with
    | false => exact h
    | true =>
      simp only [if_true] at h ⊢
      split at h
      · rename_i env' μ' he
        exact ih _ _ _ h
      · rename_i hne
        rw [h]
theorem am_lf_le {c : am_B} {s : am_T} {n m : Nat} (h : n ≤ m) {env : List AV} {μ : am_M} {o : (List AV × am_M) ⊕ (Option AV × am_M)} (hn : am_lf c s n env μ = some o) : am_lf c s m env μ = some o := by
  induction h with
  | refl => exact hn
  | step _ ih => exact am_lf_mono _ _ _ _ ih
theorem am_lp_ex (c : am_B) (s : am_T) (env : List AV) (μ : am_M) : ∃ o : Option ((List AV × am_M) ⊕ (Option AV × am_M)), (∀ r, o = some r → ∃ n, am_lf c s n env μ = some r) ∧ ∀ n r, am_lf c s n env μ = some r → o = some r := by
  by_cases h : ∃ n r, am_lf c s n env μ = some r
  · obtain ⟨n, r, h⟩ := h
    refine ⟨some r, fun r' hr => ⟨n, by cases hr; exact h⟩, fun m r' h' => ?_⟩
    have h1 := am_lf_le (Nat.le_max_left n m) h
    have h2 := am_lf_le (Nat.le_max_right n m) h'
    rw [← h1, h2]
  · exact ⟨none, fun r hr => (by cases hr), fun n r hr => absurd ⟨n, r, hr⟩ h⟩
noncomputable def s_lp (c : am_B) (s : am_T) : am_T := fun env μ => Classical.choose (am_lp_ex c s env μ)
theorem s_lp_ok {c : am_B} {s : am_T} {env : List AV} {μ : am_M} {o : (List AV × am_M) ⊕ (Option AV × am_M)} (h : s_lp c s env μ = some o) : ∃ n, am_lf c s n env μ = some o := (Classical.choose_spec (am_lp_ex c s env μ)).1 o h
theorem s_lp_of {c : am_B} {s : am_T} {env : List AV} {μ : am_M} {o : (List AV × am_M) ⊕ (Option AV × am_M)} {n : Nat} (h : am_lf c s n env μ = some o) : s_lp c s env μ = some o := (Classical.choose_spec (am_lp_ex c s env μ)).2 n o h
/-- the loop, once round -/
theorem s_lp_eq (c : am_B) (s : am_T) (env : List AV) (μ : am_M) : s_lp c s env μ = am_bd (c env μ) fun b μ => if b then s_sq s (s_lp c s) env μ else some (.inl (env, μ)) := by
  cases hc : c env μ with
  | none =>
    show _ = none
    cases h : s_lp c s env μ with
    | none => rfl
    | some o =>
      obtain ⟨n, hn⟩ := s_lp_ok h
      cases n with
      | zero => cases hn
      | succ n => unfold am_lf at hn; rw [hc] at hn; cases hn
  | some q =>
    obtain ⟨b, μ1⟩ := q
    show _ = if b = true then _ else _
    cases b with
    | false =>
      simp only [Bool.false_eq_true, if_false]
      exact s_lp_of (n := 1) (by unfold am_lf; rw [hc]; rfl)
    | true =>
      simp only [if_true]
      have step : ∀ n, am_lf c s (n + 1) env μ = (match s env μ1 with
        | some (.inl (env', μ')) => am_lf c s n env' μ'
        | o => o) := fun n => by
        show am_bd (c env μ) _ = _
        rw [hc]
        rfl
      unfold s_sq
      cases hs : s env μ1 with
      | none =>
        cases h : s_lp c s env μ with
        | none => rfl
        | some o =>
          obtain ⟨n, hn⟩ := s_lp_ok h
          cases n with
          | zero => cases hn
          | succ n => rw [step, hs] at hn; cases hn
      | some o1 =>
        rcases o1 with ⟨env', μ'⟩ | ⟨v, μ'⟩
        · show _ = s_lp c s env' μ'
          cases h : s_lp c s env' μ' with
          | some o =>
            obtain ⟨n, hn⟩ := s_lp_ok h
            exact s_lp_of (n := n + 1) (by rw [step, hs]; exact hn)
          | none =>
            cases h2 : s_lp c s env μ with
            | none => rfl
            | some o =>
              obtain ⟨n, hn⟩ := s_lp_ok h2
              cases n with
              | zero => cases hn
              | succ n =>
                rw [step, hs] at hn
                have h3 := s_lp_of (c := c) (s := s) (env := env') (μ := μ') (n := n) hn
                rw [h3] at h
                cases h
        · exact s_lp_of (n := 1) (by rw [step, hs])
theorem ok_lp {S : am_S} {fF fT : Int → List am_I} {rc : Nat} {fc : am_B} (hc : am_OkC S fF fT rc fc) {fa : List am_I} {ra : Nat} {f : am_T} (ha : am_OkS S fa ra f) : am_OkS S (fF ((am_sz (fF 0) + am_sz fa + 3 : Nat) : Int) ++ (fa ++ [(.goto (-((am_sz (fF 0) + am_sz fa : Nat) : Int)), 3, none)])) (max rc ra) (s_lp fc f) := by
  intro hr G hO pc hf env μ o hv k
  obtain ⟨n, hn⟩ := s_lp_ok hv
  clear hv
  obtain ⟨h1, h2⟩ := am_fit_app hf
  rw [hc.1] at h2
  obtain ⟨h2, h3⟩ := am_fit_app h2
  have hk : am_Kt S G (pc + (am_sz (fF 0) + am_sz fa + 3)) o := by
    rw [am_sz_app, am_sz_app, hc.1] at k
    rw [Nat.add_assoc (am_sz (fF 0))]
    exact k
  clear k
  induction n generalizing env μ with
  | zero => cases hn
  | succ n ih =>
    unfold am_lf at hn
    obtain ⟨z, μ1, hz, hv⟩ := am_bd_ok hn
    refine hc.2.2.1 G hO pc _ (pc + (am_sz (fF 0) + am_sz fa + 3)) (by omega) h1 env [] μ z μ1 hz (by simp only [List.length_cons, List.length_nil]; omega) (fun hz1 => ?_) (fun hz1 => ?_)
    · rw [hz1] at hv
      simp only [if_true] at hv
      split at hv
      · rename_i env' μ' he
        refine ha (by omega) G hO _ h2 env μ1 _ he ?_
        exact is_goto hO h3 (tgt := pc) (by omega) (ih env' μ' hv)
      · rename_i hne
        refine ha (by omega) G hO _ h2 env μ1 o hv ?_
        rcases o with ⟨env', μ'⟩ | ⟨v, μ'⟩
        · exact absurd hv (hne env' μ')
        · exact hk
    · rw [hz1] at hv
      cases hv
      exact hk
noncomputable def t_lp {S : am_S} (c : am_CP S) (a : am_SP S) : am_SP S := ⟨(c.1.1 ((am_sz (c.1.1 0) + am_sz a.1.1 + 3 : Nat) : Int) ++ (a.1.1 ++ [(.goto (-((am_sz (c.1.1 0) + am_sz a.1.1 : Nat) : Int)), 3, none)]), max c.1.2.2.1 a.1.2.1, s_lp c.1.2.2.2 a.1.2.2), ok_lp c.2 a.2⟩
/-! returns -/
def s_rt (i : Instr) (a : am_X) : am_T := fun env μ => am_bd (a env μ) fun v μ => if am_ri (some v) = i then some (.inr (some v, μ)) else none
theorem am_Rt.at {S : am_S} {G : am_G} {v : Option AV} {μ : am_M} (h : am_Rt S G v μ) {pc : Nat} {o : Option (Nat × Jvm.Cond)} (hf : am_fit S.2.1 pc [(am_ri v, 1, o)]) (env : List AV) : am_Wn S G pc env v.toList μ := by
  obtain ⟨p, l, e, R, s, m, args, below, meth, c, Q, D, cs, ad, A, nc, ns⟩ := G
  intro H locs ls hP hD hS hl
  have h1 := h H locs ls pc hP hD hS hf.1
  cases v <;> exact h1
theorem ok_rt {S : am_S} (i : Instr) {fr : List am_I} {r : Nat} {f : am_X} (ha : am_OkX S fr r f) : am_OkS S (fr ++ [(i, 1, none)]) r (s_rt i f) := by
  intro hr G hO pc hf env μ o hv k
  obtain ⟨h1, h2⟩ := am_fit_app hf
  obtain ⟨v, μ1, ha1, hv⟩ := am_bd_ok hv
  split at hv
  · rename_i hi
    cases hv
    subst hi
    exact ha G hO pc h1 env [] μ v μ1 ha1 (by simp only [List.length_nil]; omega) (am_Rt.at (v := some v) k h2 env)
  · cases hv
def t_rt {S : am_S} (i : Instr) (a : am_XP S) : am_SP S := ⟨(a.1.1 ++ [(i, 1, none)], a.1.2.1, s_rt i a.1.2.2), ok_rt i a.2⟩
def s_rv : am_T := fun _ μ => some (.inr (none, μ))
theorem ok_rv {S : am_S} : am_OkS S [(.return_, 1, none)] 0 s_rv := by
  intro hr G hO pc hf env μ o hv k
  cases hv
  exact am_Rt.at (v := none) k hf env
def t_rv {S : am_S} : am_SP S := ⟨([(.return_, 1, none)], 0, s_rv), ok_rv⟩
