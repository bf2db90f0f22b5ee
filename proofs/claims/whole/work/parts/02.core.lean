/-! THE ABSTRACT MACHINE: values, memory of ints, the fixed shape of a world, the judgement am_Wn -/
abbrev AV : Type := Int32 ⊕ Int64 ⊕ Nat ⊕ Unit
abbrev vI (x : Int32) : AV := .inl x
abbrev vL (x : Int64) : AV := .inr (.inl x)
abbrev vR (x : Nat) : AV := .inr (.inr (.inl x))
abbrev vU : AV := .inr (.inr (.inr ()))
/-- the ints of the cells: cell number, place -/
abbrev am_M : Type := Nat → Nat → Int32
/-- a cell's shape: ints, so many | references (kind of array, cells) | an object (class number, of each slot: an int, or the cell it refers to) -/
abbrev am_SC : Type := Nat ⊕ (Nat × List Nat) ⊕ (Nat × List (Option Nat))
def am_cv (ad : Nat → Nat) : AV → Value
  | .inl x => .int x
  | .inr (.inl x) => .long x
  | .inr (.inr (.inl r)) => .ref (ad r)
  | .inr (.inr (.inr _)) => .null
def am_ov (ad : Nat → Nat) : AV → Option Value
  | .inl x => some (.int x)
  | .inr (.inl x) => some (.long x)
  | .inr (.inr (.inl r)) => some (.ref (ad r))
  | .inr (.inr (.inr _)) => none
def am_sv (ad : Nat → Nat) (f : Nat → Int32) (j : Nat) (o : Option Nat) : Value := match o with
  | none => .int (f j)
  | some r => .ref (ad r)
def am_ce (ad : Nat → Nat) (cs : Nat → ClassId) (f : Nat → Int32) : am_SC → va_E
  | .inl n => .inl (cs 0, n, .inl f)
  | .inr (.inl (t, rs)) => .inl (cs t, rs.length, .inr (.inr (.inr (.inr (fun j => (rs[j]?).map ad)))))
  | .inr (.inr (ci, sl)) => .inr (ci, sl.mapIdx (am_sv ad f))
def am_wl (Sh : List am_SC) (ad : Nat → Nat) (cs : Nat → ClassId) (μ : am_M) : va_W := Sh.mapIdx (fun k sc => (ad k, am_ce ad cs (μ k) sc))
def am_ur (μ : am_M) (k : Nat) (f : Nat → Int32) : am_M := fun a => if a = k then f else μ a
def am_up (μ : am_M) (k j : Nat) (v : Int32) : am_M := am_ur μ k (upd (μ k) j v)
def am_ty (cs : Nat → ClassId) : List (ClassId × FieldType) := [(cs 0, .int), (cs 1, .object "WrackDeeds$Hanging"), (cs 2, .object "WrackDeeds$Sheet")]
theorem am_wl_get {Sh : List am_SC} {ad : Nat → Nat} {cs : Nat → ClassId} {μ : am_M} {k : Nat} {sc : am_SC} (h : Sh[k]? = some sc) : (am_wl Sh ad cs μ)[k]? = some (ad k, am_ce ad cs (μ k) sc) := by
  unfold am_wl
  rw [List.getElem?_mapIdx, h]
  rfl
theorem am_wl_set {Sh : List am_SC} {ad : Nat → Nat} {cs : Nat → ClassId} {μ : am_M} {k : Nat} {sc : am_SC} (h : Sh[k]? = some sc) (f : Nat → Int32) : (am_wl Sh ad cs μ).set k (ad k, am_ce ad cs f sc) = am_wl Sh ad cs (am_ur μ k f) := by
  have hk : k < Sh.length := (List.getElem?_eq_some_iff.mp h).1
  apply List.ext_getElem?
  intro i
  by_cases hi : i = k
  · subst hi
    rw [List.getElem?_set_self (by unfold am_wl; rw [List.length_mapIdx]; exact hk), am_wl_get h]
    simp [am_ur]
  · rw [List.getElem?_set_ne (Ne.symm hi)]
    unfold am_wl
    rw [List.getElem?_mapIdx, List.getElem?_mapIdx]
    simp [am_ur, hi]
theorem am_wl_D {Sh : List am_SC} {ad : Nat → Nat} {cs : Nat → ClassId} {μ μ' : am_M} {A : Nat → Prop} (h : va_D A (am_wl Sh ad cs μ)) : va_D A (am_wl Sh ad cs μ') := by
  have key : ∀ (k : Nat) (q : Nat × va_E), (am_wl Sh ad cs μ')[k]? = some q → ∃ q0, (am_wl Sh ad cs μ)[k]? = some q0 ∧ q0.1 = q.1 := by
    intro k q hk
    unfold am_wl at hk
    rw [List.getElem?_mapIdx] at hk
    cases hs : Sh[k]? with
    | none => rw [hs] at hk; simp at hk
    | some sc =>
      rw [hs] at hk
      refine ⟨_, am_wl_get hs, ?_⟩
      have := Option.some.inj hk
      rw [← this]
  refine ⟨fun i j x y hi hj hxy => ?_, fun k q hk => ?_⟩
  · obtain ⟨x0, h1, h2⟩ := key i x hi
    obtain ⟨y0, h3, h4⟩ := key j y hj
    exact h.1 i j x0 y0 h1 h3 (h2.trans (hxy.trans h4.symm))
  · obtain ⟨q0, h1, h2⟩ := key k q hk
    rw [← h2]
    exact h.2 k q0 h1
theorem am_wl_A {Sh : List am_SC} {ad : Nat → Nat} {cs : Nat → ClassId} {μ : am_M} {A : Nat → Prop} {H0 H : Heap} {locs : List Loc} (hD : va_D A (am_wl Sh ad cs μ)) (hS : va_S A H0 H locs) (hA : ∀ q : Nat, H0.size ≤ q → A q) : ∀ q, va_A (am_wl Sh ad cs μ) H.size q → A q := by
  intro q h
  rcases h with ⟨k, e, h⟩ | h
  · exact hD.2 k (q, e) h
  · exact hA q (Nat.le_trans hS.1 h)
/-! locals -/
def am_ll (ad : Nat → Nat) (env : List AV) : List (Nat × Value) := (List.range env.length).filterMap (fun i => (env[i]?).bind fun a => (am_ov ad a).map fun v => (i, v))
theorem am_ll_mem {ad : Nat → Nat} {env : List AV} {i : Nat} {v : Value} : (i, v) ∈ am_ll ad env ↔ ∃ a, env[i]? = some a ∧ am_ov ad a = some v := by
  unfold am_ll
  rw [List.mem_filterMap]
  constructor
  · rintro ⟨j, hj, h⟩
    cases ha : env[j]? with
    | none => rw [ha] at h; simp at h
    | some a =>
      rw [ha] at h
      cases hv : am_ov ad a with
      | none => simp [hv] at h
      | some w =>
        simp [hv] at h
        obtain ⟨rfl, rfl⟩ := h
        exact ⟨a, ha, hv⟩
  · rintro ⟨a, ha, hv⟩
    refine ⟨i, List.mem_range.mpr (List.getElem?_eq_some_iff.mp ha).1, ?_⟩
    simp [ha, hv]
def am_ag (ad : Nat → Nat) (ls : Array Slot) (nL : Nat) (env : List AV) : Prop := lv_has ls nL (am_ll ad env)
theorem am_ag.get {ad : Nat → Nat} {ls : Array Slot} {nL : Nat} {env : List AV} (h : am_ag ad ls nL env) {i : Nat} {a : AV} {v : Value} (ha : env[i]? = some a) (hv : am_ov ad a = some v) : ls[i]? = some (.val v) := h.2.2 (i, v) (am_ll_mem.mpr ⟨a, ha, hv⟩)
theorem am_ag.take {ad : Nat → Nat} {ls : Array Slot} {nL : Nat} {env : List AV} (h : am_ag ad ls nL env) (n : Nat) : am_ag ad ls nL (env.take n) := by
  refine ⟨h.1, h.2.1, fun q hq => ?_⟩
  obtain ⟨i, v⟩ := q
  obtain ⟨a, ha, hv⟩ := am_ll_mem.mp hq
  refine h.get (i := i) (a := a) ?_ hv
  rw [List.getElem?_take] at ha
  split at ha
  · exact ha
  · cases ha
/-- no long just below this place -/
def am_nl (env : List AV) : Nat → Bool
  | 0 => true
  | j + 1 => match env[j]? with
    | some (.inr (.inl _)) => false
    | _ => true
def am_se (env : List AV) (i : Nat) (a : AV) : List AV := if i < env.length then env.set i a else env ++ [a]
theorem am_se_get {env : List AV} {i : Nat} {a : AV} (hi : i ≤ env.length) {j : Nat} {b : AV} (h : (am_se env i a)[j]? = some b) : (j = i ∧ b = a) ∨ (j ≠ i ∧ env[j]? = some b) := by
  unfold am_se at h
  split at h
  · rename_i hl
    by_cases hj : j = i
    · subst hj
      rw [List.getElem?_set_self hl] at h
      exact Or.inl ⟨rfl, (Option.some.inj h).symm⟩
    · rw [List.getElem?_set_ne (Ne.symm hj)] at h
      exact Or.inr ⟨hj, h⟩
  · rename_i hl
    have hi2 : i = env.length := by omega
    by_cases hj : j < env.length
    · rw [List.getElem?_append_left hj] at h
      exact Or.inr ⟨by omega, h⟩
    · rw [List.getElem?_append_right (by omega)] at h
      have hz : j - env.length < 1 := (List.getElem?_eq_some_iff.mp h).1
      have hj2 : j = i := by omega
      subst hj2
      rw [hi2, Nat.sub_self] at h
      exact Or.inl ⟨rfl, (Option.some.inj h).symm⟩
theorem am_ov_cat {ad : Nat → Nat} {a : AV} {v : Value} (h : am_ov ad a = some v) (hc : v.category = 2) : ∃ x, a = .inr (.inl x) := by
  rcases a with x | x | x | x
  · cases h; simp [Value.category] at hc
  · exact ⟨x, rfl⟩
  · cases h; simp [Value.category] at hc
  · cases h
theorem am_ag.set1 {ad : Nat → Nat} {ls : Array Slot} {nL : Nat} {env : List AV} {i : Nat} {a : AV} {v : Value} (hv : am_ov ad a = some v) (hi : i ≤ env.length) (hn : am_nl env i = true)
    (h : lv_has ls nL ((i, v) :: (am_ll ad env).filter (fun q => !(q.1 == i) && !(q.1 + 1 == i && q.2.category == 2)))) : am_ag ad ls nL (am_se env i a) := by
  refine ⟨h.1, h.2.1, fun q hq => ?_⟩
  obtain ⟨j, w⟩ := q
  obtain ⟨b, hb, hw⟩ := am_ll_mem.mp hq
  rcases am_se_get hi hb with ⟨rfl, rfl⟩ | ⟨hj, hb2⟩
  · rw [hv] at hw
    cases hw
    exact h.2.2 (j, v) List.mem_cons_self
  · refine h.2.2 (j, w) (List.mem_cons_of_mem _ (List.mem_filter.mpr ⟨am_ll_mem.mpr ⟨b, hb2, hw⟩, ?_⟩))
    have h1 : (j == i) = false := by simpa using hj
    simp only [h1, Bool.not_false, Bool.true_and, Bool.not_eq_true', Bool.and_eq_false_iff]
    by_cases hji : j + 1 = i
    · right
      by_cases hc : w.category = 2
      · obtain ⟨x, rfl⟩ := am_ov_cat hw hc
        subst hji
        simp [am_nl, hb2] at hn
      · simpa using hc
    · left
      simpa using hji
theorem am_ag.set2 {ad : Nat → Nat} {ls : Array Slot} {nL : Nat} {env : List AV} {i : Nat} {x : Int64} (hi : i ≤ env.length) (hn : am_nl env i = true)
    (h : lv_has ls nL ((i, .long x) :: (am_ll ad env).filter (fun q => !(q.1 == i) && (!(q.1 == i + 1) && !(q.1 + 1 == i && q.2.category == 2))))) : am_ag ad ls nL (am_se (am_se env i (vL x)) (i + 1) vU) := by
  have hlen : i + 1 ≤ (am_se env i (vL x)).length := by
    unfold am_se
    split
    · rw [List.length_set]; omega
    · rw [List.length_append]; simp; omega
  refine ⟨h.1, h.2.1, fun q hq => ?_⟩
  obtain ⟨j, w⟩ := q
  obtain ⟨b, hb, hw⟩ := am_ll_mem.mp hq
  rcases am_se_get hlen hb with ⟨rfl, rfl⟩ | ⟨hj1, hb1⟩
  · cases hw
  · rcases am_se_get hi hb1 with ⟨rfl, rfl⟩ | ⟨hj, hb2⟩
    · cases hw
      exact h.2.2 (j, _) List.mem_cons_self
    · refine h.2.2 (j, w) (List.mem_cons_of_mem _ (List.mem_filter.mpr ⟨am_ll_mem.mpr ⟨b, hb2, hw⟩, ?_⟩))
      have h1 : (j == i) = false := by simpa using hj
      have h2 : (j == i + 1) = false := by simpa using hj1
      simp only [h1, h2, Bool.not_false, Bool.true_and, Bool.not_eq_true', Bool.and_eq_false_iff]
      by_cases hji : j + 1 = i
      · right
        by_cases hc : w.category = 2
        · obtain ⟨y, rfl⟩ := am_ov_cat hw hc
          subst hji
          simp [am_nl, hb2] at hn
        · simpa using hc
      · left
        simpa using hji
/-! the judgement -/
/-- p, l, e, R, s, m, args, below, meth, c, Q, D, cs, ad, A, cells, slots -/
abbrev am_G : Type := Program × Launch × Env × Room × State × MethodId × Array Value × List Frame × Method × Code × (State → Prop) × va_G × (Nat → ClassId) × (Nat → Nat) × (Nat → Prop) × Nat × Nat
/-- what is static of a method that runs: the shape of its world, its code, how many locals, how deep it may call, its class -/
abbrev am_S : Type := List am_SC × ByteArray × Nat × Nat × String
/-- the words that every state keeps; the words of calls to nest mates -/
def am_tb : List Jvm.Cond := lw_tbl.filter goodWord
def am_isN : Jvm.Cond → Bool
  | .methodLinkNest .. => true
  | _ => false
def am_ne : List Jvm.Cond := lw_tbl.filter am_isN
def am_Ok (S : am_S) : am_G → Prop
  | (p, l, e, R, s, m, args, below, meth, c, Q, D, cs, ad, A, nc, ns) => p.tables.exec = Jvm.exec ∧ c.code = S.2.1 ∧ c.maxLocals = S.2.2.1 ∧ s.vm.findClass S.2.2.2.2 = some m.cls ∧ ((∀ w ∈ am_tb, w.before args s = true) ∧ ∀ w ∈ am_ne, va_Nw w s) ∧ va_K D vwCl (am_ty cs) s ∧ (∀ q : Nat, s.heap.size ≤ q → A q) ∧ S.2.2.2.1 ≤ R.frames ∧ 64 * S.2.2.2.1 ≤ R.locals ∧ nc ≤ R.cells ∧ ns ≤ R.slots
def am_Wn (S : am_S) (G : am_G) (pc : Nat) (env st : List AV) (μ : am_M) : Prop := match G with
  | (p, l, e, R, s, m, args, below, meth, c, Q, D, cs, ad, A, nc, ns) => ∀ (H : Heap) (locs : List Loc) (ls : Array Slot), va_P D vwCl (am_wl S.1 ad cs μ) H → va_D A (am_wl S.1 ad cs μ) → va_S A s.heap H locs → am_ag ad ls S.2.2.1 env → W p l e R s m args below meth c H locs nc ns Q (F0 m pc ls (st.map (am_cv ad)))
/-- an instruction, its length, the word of the tables that it rests on, by its place -/
abbrev am_I : Type := Instr × Nat × Option (Nat × Jvm.Cond)
def am_fit (cc : ByteArray) : Nat → List am_I → Prop
  | _, [] => True
  | pc, (i, n, o) :: t => decode cc pc = .ok (i, n) ∧ (∀ q, o = some q → lw_tbl[q.1]? = some q.2) ∧ am_fit cc (pc + n) t
def am_sz : List am_I → Nat
  | [] => 0
  | (_, n, _) :: t => n + am_sz t
def am_fb (cc : ByteArray) : Nat → List am_I → Bool
  | _, [] => true
  | pc, (i, n, o) :: t => decide (decode cc pc = .ok (i, n)) && (match o with | none => true | some q => decide (lw_tbl[q.1]? = some q.2)) && am_fb cc (pc + n) t
theorem am_fb_ok {cc : ByteArray} : ∀ {l : List am_I} {pc : Nat}, am_fb cc pc l = true → am_fit cc pc l
  | [], _, _ => trivial
  | (i, n, o) :: t, pc, h => by
    simp only [am_fb, Bool.and_eq_true, decide_eq_true_eq] at h
    refine ⟨h.1.1, fun q hq => ?_, am_fb_ok h.2⟩
    subst hq
    simpa using h.1.2
theorem am_fit_app {cc : ByteArray} : ∀ {a b : List am_I} {pc : Nat}, am_fit cc pc (a ++ b) → am_fit cc pc a ∧ am_fit cc (pc + am_sz a) b
  | [], b, pc, h => ⟨trivial, h⟩
  | (i, n, o) :: t, b, pc, h => by
    obtain ⟨h1, h2, h3⟩ := h
    obtain ⟨h4, h5⟩ := am_fit_app (a := t) (b := b) (pc := pc + n) h3
    refine ⟨⟨h1, h2, h4⟩, ?_⟩
    show am_fit cc (pc + (n + am_sz t)) b
    rw [← Nat.add_assoc]
    exact h5
theorem am_sz_app : ∀ (a b : List am_I), am_sz (a ++ b) = am_sz a + am_sz b
  | [], b => by simp [am_sz]
  | (i, n, o) :: t, b => by
    show n + am_sz (t ++ b) = n + am_sz t + am_sz b
    rw [am_sz_app t b, Nat.add_assoc]
theorem am_word {k : Nat} {w : Jvm.Cond} (h : lw_tbl[k]? = some w) (hg : goodWord w = true) : w ∈ am_tb := List.mem_filter.mpr ⟨List.mem_of_getElem? h, hg⟩
theorem am_wordN {k : Nat} {w : Jvm.Cond} (h : lw_tbl[k]? = some w) (hg : am_isN w = true) : w ∈ am_ne := List.mem_filter.mpr ⟨List.mem_of_getElem? h, hg⟩
theorem am_good {y : MethodName} {cc : ByteArray} {n : Nat} {ret : Option FieldType} (h : Jvm.Cond.code y cc n ret ∈ am_tb) : GoodIn am_tb (Jvm.Cond.code y cc n ret :: am_tb) := by
  intro w hw
  have key : ∀ w ∈ am_tb, (w.onTables && w.keeps) = true ∨ ∃ ty, w = Jvm.Cond.arrayClass ty := fun w h => good_of_word (List.mem_filter.mp h).2
  rcases List.mem_cons.mp hw with rfl | hw
  · exact ⟨h, key _ h⟩
  · exact ⟨hw, key _ hw⟩
