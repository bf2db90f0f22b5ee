/-! FORMS: code and meaning side by side. x_ an expression, c_ a condition, t_ a statement; e_, b_, s_ their meanings -/
def am_bd {α β : Type} (o : Option (α × am_M)) (k : α → am_M → Option β) : Option β := match o with
  | some (a, μ) => k a μ
  | none => none
theorem am_bd_ok {α β : Type} {o : Option (α × am_M)} {k : α → am_M → Option β} {b : β} (h : am_bd o k = some b) : ∃ a μ, o = some (a, μ) ∧ k a μ = some b := by
  rcases o with _ | ⟨a, μ⟩
  · cases h
  · exact ⟨a, μ, rfl, h⟩
abbrev am_X : Type := List AV → am_M → Option (AV × am_M)
abbrev am_L : Type := List AV → am_M → Option (List AV × am_M)
abbrev am_B : Type := List AV → am_M → Option (Bool × am_M)
abbrev am_T : Type := List AV → am_M → Option ((List AV × am_M) ⊕ (Option AV × am_M))
def am_OkX (S : am_S) (fr : List am_I) (r : Nat) (f : am_X) : Prop := ∀ (G : am_G), am_Ok S G → ∀ (pc : Nat), am_fit S.2.1 pc fr → ∀ (env st : List AV) (μ : am_M) (v : AV) (μ' : am_M), f env μ = some (v, μ') → (r = 0 ∨ st.length + r ≤ 5) → am_Wn S G (pc + am_sz fr) env (v :: st) μ' → am_Wn S G pc env st μ
def am_OkA (S : am_S) (fr : List am_I) (r : Nat) (f : am_L) : Prop := ∀ (G : am_G), am_Ok S G → ∀ (pc : Nat), am_fit S.2.1 pc fr → ∀ (env st : List AV) (μ : am_M) (vs : List AV) (μ' : am_M), f env μ = some (vs, μ') → (r = 0 ∨ st.length + r ≤ 5) → am_Wn S G (pc + am_sz fr) env (vs.reverse ++ st) μ' → am_Wn S G pc env st μ
/-- a jump where it is false (fF), where it is true (fT); the jump's goal counts from the first byte on -/
def am_OkC (S : am_S) (fF fT : Int → List am_I) (r : Nat) (f : am_B) : Prop := (∀ o, am_sz (fF o) = am_sz (fF 0)) ∧ (∀ o, am_sz (fT o) = am_sz (fT 0)) ∧
  (∀ (G : am_G), am_Ok S G → ∀ (pc : Nat) (off : Int) (tgt : Nat), (pc : Int) + off = (tgt : Int) → am_fit S.2.1 pc (fF off) → ∀ (env st : List AV) (μ : am_M) (b : Bool) (μ' : am_M), f env μ = some (b, μ') → (r = 0 ∨ st.length + r ≤ 5) → (b = true → am_Wn S G (pc + am_sz (fF 0)) env st μ') → (b = false → am_Wn S G tgt env st μ') → am_Wn S G pc env st μ) ∧
  (∀ (G : am_G), am_Ok S G → ∀ (pc : Nat) (off : Int) (tgt : Nat), (pc : Int) + off = (tgt : Int) → am_fit S.2.1 pc (fT off) → ∀ (env st : List AV) (μ : am_M) (b : Bool) (μ' : am_M), f env μ = some (b, μ') → (r = 0 ∨ st.length + r ≤ 5) → (b = false → am_Wn S G (pc + am_sz (fT 0)) env st μ') → (b = true → am_Wn S G tgt env st μ') → am_Wn S G pc env st μ)
def am_ri : Option AV → Instr
  | none => .return_
  | some (.inl _) => .ireturn
  | some (.inr (.inl _)) => .lreturn
  | some (.inr (.inr _)) => .areturn
def am_Rt (S : am_S) (G : am_G) (v : Option AV) (μ : am_M) : Prop := match G with
  | (p, l, e, R, s, m, args, below, meth, c, Q, D, cs, ad, A, nc, ns) => ∀ (H : Heap) (locs : List Loc) (ls : Array Slot) (pc : Nat), va_P D vwCl (am_wl S.1 ad cs μ) H → va_D A (am_wl S.1 ad cs μ) → va_S A s.heap H locs → decode S.2.1 pc = .ok (am_ri v, 1) → W p l e R s m args below meth c H locs nc ns Q (F0 m pc ls (v.map (am_cv ad)).toList)
def am_Kt (S : am_S) (G : am_G) (pc : Nat) : (List AV × am_M) ⊕ (Option AV × am_M) → Prop
  | .inl (env, μ) => am_Wn S G pc env [] μ
  | .inr (v, μ) => am_Rt S G v μ
def am_OkS (S : am_S) (fr : List am_I) (r : Nat) (f : am_T) : Prop := r ≤ 5 → ∀ (G : am_G), am_Ok S G → ∀ (pc : Nat), am_fit S.2.1 pc fr → ∀ (env : List AV) (μ : am_M) (o : (List AV × am_M) ⊕ (Option AV × am_M)), f env μ = some o → am_Kt S G (pc + am_sz fr) o → am_Wn S G pc env [] μ
abbrev am_XP (S : am_S) : Type := { q : List am_I × Nat × am_X // am_OkX S q.1 q.2.1 q.2.2 }
abbrev am_AP (S : am_S) : Type := { q : List am_I × Nat × am_L // am_OkA S q.1 q.2.1 q.2.2 }
abbrev am_CP (S : am_S) : Type := { q : (Int → List am_I) × (Int → List am_I) × Nat × am_B // am_OkC S q.1 q.2.1 q.2.2.1 q.2.2.2 }
abbrev am_SP (S : am_S) : Type := { q : List am_I × Nat × am_T // am_OkS S q.1 q.2.1 q.2.2 }
/-! expressions -/
def e_n (op : List AV → Option AV) : am_X := fun env μ => (op env).map (fun v => (v, μ))
def e_u (op : AV → am_M → Option AV) (a : am_X) : am_X := fun env μ => am_bd (a env μ) fun v μ => (op v μ).map (fun w => (w, μ))
def e_b (op : AV → AV → am_M → Option AV) (a b : am_X) : am_X := fun env μ => am_bd (a env μ) fun v μ => am_bd (b env μ) fun w μ => (op v w μ).map (fun z => (z, μ))
def e_c (c : am_B) (a b : am_X) : am_X := fun env μ => am_bd (c env μ) fun z μ => if z then a env μ else b env μ
theorem am_map_ok {α β : Type} {o : Option α} {g : α → β} {b : β} (h : o.map g = some b) : ∃ a, o = some a ∧ g a = b := by
  rcases o with _ | a
  · cases h
  · exact ⟨a, rfl, Option.some.inj h⟩
theorem ok_n {S : am_S} {i : am_I} {op : List AV → Option AV} (h : am_IK S i op) : am_OkX S [i] 0 (e_n op) := by
  intro G hO pc hf env st μ v μ' hv hr k
  obtain ⟨w, hw, he⟩ := am_map_ok hv
  cases he
  exact h G hO pc hf env st _ _ hw k
theorem ok_u {S : am_S} {i : am_I} {op : AV → am_M → Option AV} (h : am_IU S i op) {fr : List am_I} {r : Nat} {f : am_X} (ha : am_OkX S fr r f) : am_OkX S (fr ++ [i]) r (e_u op f) := by
  intro G hO pc hf env st μ v μ' hv hr k
  obtain ⟨h1, h2⟩ := am_fit_app hf
  obtain ⟨a, μ1, ha1, hv⟩ := am_bd_ok hv
  obtain ⟨w, hw, he⟩ := am_map_ok hv
  cases he
  refine ha G hO pc h1 env st μ a _ ha1 hr (h G hO _ h2 env st _ a _ hw ?_)
  rw [am_sz_app, ← Nat.add_assoc] at k
  exact k
theorem ok_b {S : am_S} {i : am_I} {op : AV → AV → am_M → Option AV} (h : am_IB S i op) {fa fb : List am_I} {ra rb : Nat} {f g : am_X} (ha : am_OkX S fa ra f) (hb : am_OkX S fb rb g) : am_OkX S (fa ++ (fb ++ [i])) (max ra (rb + min rb 1)) (e_b op f g) := by
  intro G hO pc hf env st μ v μ' hv hr k
  obtain ⟨h1, h2⟩ := am_fit_app hf
  obtain ⟨h2, h3⟩ := am_fit_app h2
  obtain ⟨a, μ1, ha1, hv⟩ := am_bd_ok hv
  obtain ⟨b, μ2, hb1, hv⟩ := am_bd_ok hv
  obtain ⟨w, hw, he⟩ := am_map_ok hv
  cases he
  refine ha G hO pc h1 env st μ a μ1 ha1 (by omega) (hb G hO _ h2 env (a :: st) μ1 b _ hb1 (by simp only [List.length_cons]; omega) (h G hO _ h3 env st _ a b _ hw ?_))
  rw [am_sz_app, am_sz_app, ← Nat.add_assoc, ← Nat.add_assoc] at k
  exact k
def x_n {S : am_S} (i : am_I) (op : List AV → Option AV) (h : am_IK S i op) : am_XP S := ⟨([i], 0, e_n op), ok_n h⟩
def x_u {S : am_S} (i : am_I) (op : AV → am_M → Option AV) (h : am_IU S i op) (a : am_XP S) : am_XP S := ⟨(a.1.1 ++ [i], a.1.2.1, e_u op a.1.2.2), ok_u h a.2⟩
def x_b {S : am_S} (i : am_I) (op : AV → AV → am_M → Option AV) (h : am_IB S i op) (a b : am_XP S) : am_XP S := ⟨(a.1.1 ++ (b.1.1 ++ [i]), max a.1.2.1 (b.1.2.1 + min b.1.2.1 1), e_b op a.1.2.2 b.1.2.2), ok_b h a.2 b.2⟩
theorem ok_c {S : am_S} {fF fT : Int → List am_I} {rc : Nat} {fc : am_B} (hc : am_OkC S fF fT rc fc) {fa fb : List am_I} {ra rb : Nat} {f g : am_X} (ha : am_OkX S fa ra f) (hb : am_OkX S fb rb g) : am_OkX S (fF ((am_sz (fF 0) + am_sz fa + 3 : Nat) : Int) ++ (fa ++ ((.goto ((3 + am_sz fb : Nat) : Int), 3, none) :: fb))) (max rc (max ra rb)) (e_c fc f g) := by
  intro G hO pc hf env st μ v μ' hv hr k
  obtain ⟨h1, h2⟩ := am_fit_app hf
  rw [hc.1] at h2
  obtain ⟨h2, h3⟩ := am_fit_app h2
  obtain ⟨h3a, h3b, h4⟩ := h3
  obtain ⟨z, μ1, hz, hv⟩ := am_bd_ok hv
  rw [am_sz_app, am_sz_app, hc.1] at k
  have he : am_sz ((Instr.goto ((3 + am_sz fb : Nat) : Int), 3, none) :: fb) = 3 + am_sz fb := rfl
  rw [he] at k
  refine hc.2.2.1 G hO pc _ (pc + am_sz (fF 0) + am_sz fa + 3) (by omega) h1 env st μ z μ1 hz (by omega) (fun hz1 => ?_) (fun hz1 => ?_)
  · rw [hz1] at hv
    refine ha G hO _ h2 env st μ1 v μ' hv (by omega) (is_goto hO ⟨h3a, h3b, trivial⟩ (tgt := pc + (am_sz (fF 0) + (am_sz fa + (3 + am_sz fb)))) (by omega) k)
  · rw [hz1] at hv
    refine hb G hO _ h4 env st μ1 v μ' hv (by omega) ?_
    rw [show pc + am_sz (fF 0) + am_sz fa + 3 + am_sz fb = pc + (am_sz (fF 0) + (am_sz fa + (3 + am_sz fb))) by omega]
    exact k
def x_c {S : am_S} (c : am_CP S) (a b : am_XP S) : am_XP S := ⟨(c.1.1 ((am_sz (c.1.1 0) + am_sz a.1.1 + 3 : Nat) : Int) ++ (a.1.1 ++ ((.goto ((3 + am_sz b.1.1 : Nat) : Int), 3, none) :: b.1.1)), max c.1.2.2.1 (max a.1.2.1 b.1.2.1), e_c c.1.2.2.2 a.1.2.2 b.1.2.2), ok_c c.2 a.2 b.2⟩
/-! conditions -/
def am_cn' : ClassFile.Cond → ClassFile.Cond
  | .eq => .ne
  | .ne => .eq
  | .lt => .ge
  | .ge => .lt
  | .gt => .le
  | .le => .gt
theorem am_c0_n (c : ClassFile.Cond) (x : Int32) : am_c0 (am_cn' c) x = !am_c0 c x := by
  cases c <;> simp only [am_cn', am_c0]
  · by_cases h : x = 0 <;> simp [h]
  · by_cases h : x = 0 <;> simp [h]
  · by_cases h : x < 0
    · simp [h]
    · simp [h, Int32.not_lt.mp h]
  · by_cases h : x < 0
    · simp [h]
    · simp [h, Int32.not_lt.mp h]
  · by_cases h : 0 < x
    · simp [h]
    · simp [h, Int32.not_lt.mp h]
  · by_cases h : 0 < x
    · simp [h]
    · simp [h, Int32.not_lt.mp h]
theorem am_c2_n (c : ClassFile.Cond) (x y : Int32) : am_c2 (am_cn' c) x y = !am_c2 c x y := by
  cases c <;> simp only [am_cn', am_c2]
  · by_cases h : x = y <;> simp [h]
  · by_cases h : x = y <;> simp [h]
  · by_cases h : x < y
    · simp [h]
    · simp [h, Int32.not_lt.mp h]
  · by_cases h : x < y
    · simp [h]
    · simp [h, Int32.not_lt.mp h]
  · by_cases h : y < x
    · simp [h]
    · simp [h, Int32.not_lt.mp h]
  · by_cases h : y < x
    · simp [h]
    · simp [h, Int32.not_lt.mp h]
def b_z (cd : ClassFile.Cond) (a : am_X) : am_B := fun env μ => am_bd (a env μ) fun v μ => match v with
  | .inl x => some (am_c0 cd x, μ)
  | _ => none
def b_2 (cd : ClassFile.Cond) (a b : am_X) : am_B := fun env μ => am_bd (a env μ) fun v μ => am_bd (b env μ) fun w μ => match v, w with
  | .inl x, .inl y => some (am_c2 cd x y, μ)
  | _, _ => none
def b_and (a b : am_B) : am_B := fun env μ => am_bd (a env μ) fun x μ => if x then b env μ else some (false, μ)
def b_or (a b : am_B) : am_B := fun env μ => am_bd (a env μ) fun x μ => if x then some (true, μ) else b env μ
def b_not (a : am_B) : am_B := fun env μ => am_bd (a env μ) fun x μ => some (!x, μ)
theorem ok_z {S : am_S} (cd : ClassFile.Cond) {fr : List am_I} {r : Nat} {f : am_X} (ha : am_OkX S fr r f) : am_OkC S (fun o => fr ++ [(.ifCond (am_cn' cd) (o - (am_sz fr : Nat)), 3, none)]) (fun o => fr ++ [(.ifCond cd (o - (am_sz fr : Nat)), 3, none)]) r (b_z cd f) := by
  have hz : ∀ (cd : ClassFile.Cond) (o : Int), am_sz (fr ++ [(Instr.ifCond cd (o - (am_sz fr : Nat)), 3, none)]) = am_sz fr + 3 := fun cd o => by rw [am_sz_app]; rfl
  refine ⟨fun o => by rw [hz, hz], fun o => by rw [hz, hz], ?_, ?_⟩
  · intro G hO pc off tgt ht hf env st μ b μ' hb hr kt kf
    obtain ⟨h1, h2⟩ := am_fit_app hf
    obtain ⟨v, μ1, hv, hb⟩ := am_bd_ok hb
    split at hb
    · rename_i x
      cases hb
      rw [hz] at kt
      refine ha G hO pc h1 env st μ _ _ hv hr (is_if hO (am_cn' cd) h2 (tgt := tgt) (by omega) (fun h => kf (by rw [am_c0_n] at h; simpa using h)) (fun h => ?_))
      rw [Nat.add_assoc]
      exact kt (by rw [am_c0_n] at h; simpa using h)
    · cases hb
  · intro G hO pc off tgt ht hf env st μ b μ' hb hr kf kt
    obtain ⟨h1, h2⟩ := am_fit_app hf
    obtain ⟨v, μ1, hv, hb⟩ := am_bd_ok hb
    split at hb
    · rename_i x
      cases hb
      rw [hz] at kf
      refine ha G hO pc h1 env st μ _ _ hv hr (is_if hO cd h2 (tgt := tgt) (by omega) (fun h => kt h) (fun h => ?_))
      rw [Nat.add_assoc]
      exact kf h
    · cases hb
theorem ok_2 {S : am_S} (cd : ClassFile.Cond) {fa fb : List am_I} {ra rb : Nat} {f g : am_X} (ha : am_OkX S fa ra f) (hb : am_OkX S fb rb g) : am_OkC S (fun o => fa ++ (fb ++ [(.if_icmp (am_cn' cd) (o - (am_sz fa + am_sz fb : Nat)), 3, none)])) (fun o => fa ++ (fb ++ [(.if_icmp cd (o - (am_sz fa + am_sz fb : Nat)), 3, none)])) (max ra (rb + min rb 1)) (b_2 cd f g) := by
  have hz : ∀ (cd : ClassFile.Cond) (o : Int), am_sz (fa ++ (fb ++ [(Instr.if_icmp cd o, 3, none)])) = am_sz fa + (am_sz fb + 3) := fun cd o => by rw [am_sz_app, am_sz_app]; rfl
  refine ⟨fun o => by rw [hz, hz], fun o => by rw [hz, hz], ?_, ?_⟩
  · intro G hO pc off tgt ht hf env st μ b μ' hv hr kt kf
    obtain ⟨h1, h2⟩ := am_fit_app hf
    obtain ⟨h2, h3⟩ := am_fit_app h2
    obtain ⟨v, μ1, hv1, hv⟩ := am_bd_ok hv
    obtain ⟨w, μ2, hv2, hv⟩ := am_bd_ok hv
    split at hv
    · rename_i x y
      cases hv
      rw [hz] at kt
      refine ha G hO pc h1 env st μ _ _ hv1 (by omega) (hb G hO _ h2 env _ μ1 _ _ hv2 (by simp only [List.length_cons]; omega) (is_ic hO (am_cn' cd) h3 (tgt := tgt) (by omega) (fun h => kf (by rw [am_c2_n] at h; simpa using h)) (fun h => ?_)))
      rw [Nat.add_assoc, Nat.add_assoc]
      exact kt (by rw [am_c2_n] at h; simpa using h)
    · cases hv
  · intro G hO pc off tgt ht hf env st μ b μ' hv hr kf kt
    obtain ⟨h1, h2⟩ := am_fit_app hf
    obtain ⟨h2, h3⟩ := am_fit_app h2
    obtain ⟨v, μ1, hv1, hv⟩ := am_bd_ok hv
    obtain ⟨w, μ2, hv2, hv⟩ := am_bd_ok hv
    split at hv
    · rename_i x y
      cases hv
      rw [hz] at kf
      refine ha G hO pc h1 env st μ _ _ hv1 (by omega) (hb G hO _ h2 env _ μ1 _ _ hv2 (by simp only [List.length_cons]; omega) (is_ic hO cd h3 (tgt := tgt) (by omega) (fun h => kt h) (fun h => ?_)))
      rw [Nat.add_assoc, Nat.add_assoc]
      exact kf h
    · cases hv
def c_z {S : am_S} (cd : ClassFile.Cond) (a : am_XP S) : am_CP S := ⟨(fun o => a.1.1 ++ [(.ifCond (am_cn' cd) (o - (am_sz a.1.1 : Nat)), 3, none)], fun o => a.1.1 ++ [(.ifCond cd (o - (am_sz a.1.1 : Nat)), 3, none)], a.1.2.1, b_z cd a.1.2.2), ok_z cd a.2⟩
def c_2 {S : am_S} (cd : ClassFile.Cond) (a b : am_XP S) : am_CP S := ⟨(fun o => a.1.1 ++ (b.1.1 ++ [(.if_icmp (am_cn' cd) (o - (am_sz a.1.1 + am_sz b.1.1 : Nat)), 3, none)]), fun o => a.1.1 ++ (b.1.1 ++ [(.if_icmp cd (o - (am_sz a.1.1 + am_sz b.1.1 : Nat)), 3, none)]), max a.1.2.1 (b.1.2.1 + min b.1.2.1 1), b_2 cd a.1.2.2 b.1.2.2), ok_2 cd a.2 b.2⟩
theorem ok_not {S : am_S} {fF fT : Int → List am_I} {r : Nat} {f : am_B} (h : am_OkC S fF fT r f) : am_OkC S fT fF r (b_not f) := by
  refine ⟨h.2.1, h.1, ?_, ?_⟩
  · intro G hO pc off tgt ht hf env st μ b μ' hb hr kt kf
    obtain ⟨x, μ1, hx, hb⟩ := am_bd_ok hb
    cases hb
    exact h.2.2.2 G hO pc off tgt ht hf env st μ x _ hx hr (fun z => kt (by rw [z]; rfl)) (fun z => kf (by rw [z]; rfl))
  · intro G hO pc off tgt ht hf env st μ b μ' hb hr kf kt
    obtain ⟨x, μ1, hx, hb⟩ := am_bd_ok hb
    cases hb
    exact h.2.2.1 G hO pc off tgt ht hf env st μ x _ hx hr (fun z => kf (by rw [z]; rfl)) (fun z => kt (by rw [z]; rfl))
def c_not {S : am_S} (a : am_CP S) : am_CP S := ⟨(a.1.2.1, a.1.1, a.1.2.2.1, b_not a.1.2.2.2), ok_not a.2⟩
theorem ok_and {S : am_S} {aF aT bF bT : Int → List am_I} {ra rb : Nat} {f g : am_B} (ha : am_OkC S aF aT ra f) (hb : am_OkC S bF bT rb g) : am_OkC S (fun o => aF o ++ bF (o - (am_sz (aF 0) : Nat))) (fun o => aF ((am_sz (aF 0) + am_sz (bT 0) : Nat) : Int) ++ bT (o - (am_sz (aF 0) : Nat))) (max ra rb) (b_and f g) := by
  have hz1 : ∀ o : Int, am_sz (aF o ++ bF (o - (am_sz (aF 0) : Nat))) = am_sz (aF 0) + am_sz (bF 0) := fun o => by rw [am_sz_app, ha.1, hb.1]
  have hz2 : ∀ o : Int, am_sz (aF ((am_sz (aF 0) + am_sz (bT 0) : Nat) : Int) ++ bT (o - (am_sz (aF 0) : Nat))) = am_sz (aF 0) + am_sz (bT 0) := fun o => by rw [am_sz_app, ha.1, hb.2.1]
  refine ⟨fun o => by rw [hz1, hz1], fun o => by rw [hz2, hz2], ?_, ?_⟩
  · intro G hO pc off tgt ht hf env st μ b μ' hv hr kt kf
    obtain ⟨h1, h2⟩ := am_fit_app hf
    rw [ha.1] at h2
    obtain ⟨x, μ1, hx, hv⟩ := am_bd_ok hv
    rw [hz1, ← Nat.add_assoc] at kt
    refine ha.2.2.1 G hO pc off tgt ht h1 env st μ x μ1 hx (by omega) (fun z => ?_) (fun z => ?_)
    · rw [z] at hv
      exact hb.2.2.1 G hO _ _ tgt (by omega) h2 env st μ1 b μ' hv (by omega) kt kf
    · rw [z] at hv
      cases hv
      exact kf rfl
  · intro G hO pc off tgt ht hf env st μ b μ' hv hr kf kt
    obtain ⟨h1, h2⟩ := am_fit_app hf
    rw [ha.1] at h2
    obtain ⟨x, μ1, hx, hv⟩ := am_bd_ok hv
    rw [hz2] at kf
    refine ha.2.2.1 G hO pc _ (pc + (am_sz (aF 0) + am_sz (bT 0))) (by omega) h1 env st μ x μ1 hx (by omega) (fun z => ?_) (fun z => ?_)
    · rw [z] at hv
      refine hb.2.2.2 G hO _ _ tgt (by omega) h2 env st μ1 b μ' hv (by omega) (fun y => ?_) kt
      rw [Nat.add_assoc]
      exact kf y
    · rw [z] at hv
      cases hv
      exact kf rfl
def c_and {S : am_S} (a b : am_CP S) : am_CP S := ⟨(fun o => a.1.1 o ++ b.1.1 (o - (am_sz (a.1.1 0) : Nat)), fun o => a.1.1 ((am_sz (a.1.1 0) + am_sz (b.1.2.1 0) : Nat) : Int) ++ b.1.2.1 (o - (am_sz (a.1.1 0) : Nat)), max a.1.2.2.1 b.1.2.2.1, b_and a.1.2.2.2 b.1.2.2.2), ok_and a.2 b.2⟩
theorem ok_or {S : am_S} {aF aT bF bT : Int → List am_I} {ra rb : Nat} {f g : am_B} (ha : am_OkC S aF aT ra f) (hb : am_OkC S bF bT rb g) : am_OkC S (fun o => aT ((am_sz (aT 0) + am_sz (bF 0) : Nat) : Int) ++ bF (o - (am_sz (aT 0) : Nat))) (fun o => aT o ++ bT (o - (am_sz (aT 0) : Nat))) (max ra rb) (b_or f g) := by
  have hz1 : ∀ o : Int, am_sz (aT ((am_sz (aT 0) + am_sz (bF 0) : Nat) : Int) ++ bF (o - (am_sz (aT 0) : Nat))) = am_sz (aT 0) + am_sz (bF 0) := fun o => by rw [am_sz_app, ha.2.1, hb.1]
  have hz2 : ∀ o : Int, am_sz (aT o ++ bT (o - (am_sz (aT 0) : Nat))) = am_sz (aT 0) + am_sz (bT 0) := fun o => by rw [am_sz_app, ha.2.1, hb.2.1]
  refine ⟨fun o => by rw [hz1, hz1], fun o => by rw [hz2, hz2], ?_, ?_⟩
  · intro G hO pc off tgt ht hf env st μ b μ' hv hr kt kf
    obtain ⟨h1, h2⟩ := am_fit_app hf
    rw [ha.2.1] at h2
    obtain ⟨x, μ1, hx, hv⟩ := am_bd_ok hv
    rw [hz1] at kt
    refine ha.2.2.2 G hO pc _ (pc + (am_sz (aT 0) + am_sz (bF 0))) (by omega) h1 env st μ x μ1 hx (by omega) (fun z => ?_) (fun z => ?_)
    · rw [z] at hv
      refine hb.2.2.1 G hO _ _ tgt (by omega) h2 env st μ1 b μ' hv (by omega) (fun y => ?_) kf
      rw [Nat.add_assoc]
      exact kt y
    · rw [z] at hv
      cases hv
      exact kt rfl
  · intro G hO pc off tgt ht hf env st μ b μ' hv hr kf kt
    obtain ⟨h1, h2⟩ := am_fit_app hf
    rw [ha.2.1] at h2
    obtain ⟨x, μ1, hx, hv⟩ := am_bd_ok hv
    rw [hz2, ← Nat.add_assoc] at kf
    refine ha.2.2.2 G hO pc off tgt ht h1 env st μ x μ1 hx (by omega) (fun z => ?_) (fun z => ?_)
    · rw [z] at hv
      exact hb.2.2.2 G hO _ _ tgt (by omega) h2 env st μ1 b μ' hv (by omega) kf kt
    · rw [z] at hv
      cases hv
      exact kt rfl
def c_or {S : am_S} (a b : am_CP S) : am_CP S := ⟨(fun o => a.1.2.1 ((am_sz (a.1.2.1 0) + am_sz (b.1.1 0) : Nat) : Int) ++ b.1.1 (o - (am_sz (a.1.2.1 0) : Nat)), fun o => a.1.2.1 o ++ b.1.2.1 (o - (am_sz (a.1.2.1 0) : Nat)), max a.1.2.2.1 b.1.2.2.1, b_or a.1.2.2.2 b.1.2.2.2), ok_or a.2 b.2⟩
