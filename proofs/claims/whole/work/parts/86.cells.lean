/-! cells by kind: a hanging, events, a shore; frames -/
/-- a hanging's cell -/
def HC (c : Nat) : Prop := ∃ s, s < 8 ∧ (c = 27 + 3 * s ∨ c = 53 + 3 * s)
def EC (c : Nat) : Prop := c = 15 ∨ c = 20
def SC (c b : Nat) : Prop := (c = 25 ∧ b = 27) ∨ (c = 51 ∧ b = 53)
theorem HC.b {c : Nat} (h : HC c) : 27 ≤ c ∧ c ≤ 74 := by obtain ⟨s, hs, h | h⟩ := h <;> omega
theorem SC.h {c b s : Nat} (h : SC c b) (hs : s < 8) : HC (b + 3 * s) := by
  rcases h with ⟨_, h⟩ | ⟨_, h⟩
  · exact ⟨s, hs, Or.inl (by rw [h])⟩
  · exact ⟨s, hs, Or.inr (by rw [h])⟩
theorem SC.b {c b : Nat} (h : SC c b) : 25 ≤ c ∧ c ≤ 51 ∧ (b = 27 ∨ b = 53) := by rcases h with ⟨h1, h⟩ | ⟨h1, h⟩ <;> omega
theorem hck {c : Nat} (h : HC c) : am_ck ShX 3 (vR c) = true := by
  obtain ⟨s, hs, rfl | rfl⟩ := h
  · exact ck_H hs
  · exact ck_G hs
theorem hv_0 {c : Nat} (h : HC c) (μ : am_M) : am_gv ShX 3 0 (vR c) μ = some (vR (c + 1)) := by
  obtain ⟨s, hs, rfl | rfl⟩ := h
  · rw [gv_H_0 hs, show 28 + 3 * s = 27 + 3 * s + 1 by omega]
  · rw [gv_G_0 hs, show 54 + 3 * s = 53 + 3 * s + 1 by omega]
theorem hv_1 {c : Nat} (h : HC c) (μ : am_M) : am_gv ShX 3 1 (vR c) μ = some (vR (c + 2)) := by
  obtain ⟨s, hs, rfl | rfl⟩ := h
  · rw [gv_H_1 hs, show 29 + 3 * s = 27 + 3 * s + 2 by omega]
  · rw [gv_G_1 hs, show 55 + 3 * s = 53 + 3 * s + 2 by omega]
theorem hv_2 {c : Nat} (h : HC c) (μ : am_M) : am_gv ShX 3 2 (vR c) μ = some (vI (μ c 2)) := by
  obtain ⟨s, hs, rfl | rfl⟩ := h
  · exact gv_H_2 hs μ
  · exact gv_G_2 hs μ
theorem hv_3 {c : Nat} (h : HC c) (μ : am_M) : am_gv ShX 3 3 (vR c) μ = some (vI (μ c 3)) := by
  obtain ⟨s, hs, rfl | rfl⟩ := h
  · exact gv_H_3 hs μ
  · exact gv_G_3 hs μ
theorem hv_4 {c : Nat} (h : HC c) (μ : am_M) : am_gv ShX 3 4 (vR c) μ = some (vI (μ c 4)) := by
  obtain ⟨s, hs, rfl | rfl⟩ := h
  · exact gv_H_4 hs μ
  · exact gv_G_4 hs μ
theorem hp_2 {c : Nat} (h : HC c) (x : Int32) (μ : am_M) : am_pv ShX 3 2 false (vR c) (vI x) μ = some (am_up μ c 2 x) := by
  obtain ⟨s, hs, rfl | rfl⟩ := h
  · exact pv_H_2 hs x μ
  · exact pv_G_2 hs x μ
theorem hp_3 {c : Nat} (h : HC c) (x : Int32) (μ : am_M) : am_pv ShX 3 3 false (vR c) (vI x) μ = some (am_up μ c 3 x) := by
  obtain ⟨s, hs, rfl | rfl⟩ := h
  · exact pv_H_3 hs x μ
  · exact pv_G_3 hs x μ
theorem hp_4 {c : Nat} (h : HC c) {x : Int32} (hx : x = 0 ∨ x = 1) (μ : am_M) : am_pv ShX 3 4 true (vR c) (vI x) μ = some (am_up μ c 4 x) := by
  obtain ⟨s, hs, rfl | rfl⟩ := h
  · exact pv_H_4 hs hx μ
  · exact pv_G_4 hs hx μ
theorem hl_1 {c i : Nat} (h : HC c) (hi : i < 20) (μ : am_M) : am_lv ShX (vR (c + 1)) (vI (nI i)) μ = some (vI (μ (c + 1) i)) := by
  obtain ⟨s, hs, rfl | rfl⟩ := h
  · rw [show 27 + 3 * s + 1 = 28 + 3 * s by omega]; exact lv_H_0 hs hi μ
  · rw [show 53 + 3 * s + 1 = 54 + 3 * s by omega]; exact lv_G_0 hs hi μ
theorem hl_2 {c i : Nat} (h : HC c) (hi : i < 20) (μ : am_M) : am_lv ShX (vR (c + 2)) (vI (nI i)) μ = some (vI (μ (c + 2) i)) := by
  obtain ⟨s, hs, rfl | rfl⟩ := h
  · rw [show 27 + 3 * s + 2 = 29 + 3 * s by omega]; exact lv_H_1 hs hi μ
  · rw [show 53 + 3 * s + 2 = 55 + 3 * s by omega]; exact lv_G_1 hs hi μ
theorem hw_1 {c i : Nat} (h : HC c) (hi : i < 20) (x : Int32) (μ : am_M) : am_wv ShX (vR (c + 1)) (vI (nI i)) (vI x) μ = some (am_up μ (c + 1) i x) := by
  obtain ⟨s, hs, rfl | rfl⟩ := h
  · rw [show 27 + 3 * s + 1 = 28 + 3 * s by omega]; exact wv_H_0 hs hi x μ
  · rw [show 53 + 3 * s + 1 = 54 + 3 * s by omega]; exact wv_G_0 hs hi x μ
theorem hw_2 {c i : Nat} (h : HC c) (hi : i < 20) (x : Int32) (μ : am_M) : am_wv ShX (vR (c + 2)) (vI (nI i)) (vI x) μ = some (am_up μ (c + 2) i x) := by
  obtain ⟨s, hs, rfl | rfl⟩ := h
  · rw [show 27 + 3 * s + 2 = 29 + 3 * s by omega]; exact wv_H_1 hs hi x μ
  · rw [show 53 + 3 * s + 2 = 55 + 3 * s by omega]; exact wv_G_1 hs hi x μ
theorem ev_0 {c : Nat} (h : EC c) (μ : am_M) : am_gv ShX 1 0 (vR c) μ = some (vI (μ c 0)) := by rcases h with rfl | rfl <;> rfl
theorem ev_1 {c : Nat} (h : EC c) (μ : am_M) : am_gv ShX 1 1 (vR c) μ = some (vR (c + 1)) := by rcases h with rfl | rfl <;> rfl
theorem ev_2 {c : Nat} (h : EC c) (μ : am_M) : am_gv ShX 1 2 (vR c) μ = some (vR (c + 2)) := by rcases h with rfl | rfl <;> rfl
theorem ev_3 {c : Nat} (h : EC c) (μ : am_M) : am_gv ShX 1 3 (vR c) μ = some (vR (c + 3)) := by rcases h with rfl | rfl <;> rfl
theorem ev_4 {c : Nat} (h : EC c) (μ : am_M) : am_gv ShX 1 4 (vR c) μ = some (vR (c + 4)) := by rcases h with rfl | rfl <;> rfl
theorem eck {c : Nat} (h : EC c) : am_ck ShX 1 (vR c) = true := by rcases h with rfl | rfl <;> rfl
theorem el_1 {c i : Nat} (h : EC c) (hi : i < 8) (μ : am_M) : am_lv ShX (vR (c + 1)) (vI (nI i)) μ = some (vI (μ (c + 1) i)) := by rcases h with rfl | rfl <;> exact am_lv_i rfl hi (by decide)
theorem el_2 {c i : Nat} (h : EC c) (hi : i < 8) (μ : am_M) : am_lv ShX (vR (c + 2)) (vI (nI i)) μ = some (vI (μ (c + 2) i)) := by rcases h with rfl | rfl <;> exact am_lv_i rfl hi (by decide)
theorem el_3 {c i : Nat} (h : EC c) (hi : i < 8) (μ : am_M) : am_lv ShX (vR (c + 3)) (vI (nI i)) μ = some (vI (μ (c + 3) i)) := by rcases h with rfl | rfl <;> exact am_lv_i rfl hi (by decide)
theorem el_4 {c i : Nat} (h : EC c) (hi : i < 8) (μ : am_M) : am_lv ShX (vR (c + 4)) (vI (nI i)) μ = some (vI (μ (c + 4) i)) := by rcases h with rfl | rfl <;> exact am_lv_i rfl hi (by decide)
theorem shck {c b : Nat} (h : SC c b) : am_ck ShX 5 (vR c) = true := by rcases h with ⟨rfl, rfl⟩ | ⟨rfl, rfl⟩ <;> rfl
theorem sh_0 {c b : Nat} (h : SC c b) (μ : am_M) : am_gv ShX 5 0 (vR c) μ = some (vR (c + 1)) := by rcases h with ⟨rfl, rfl⟩ | ⟨rfl, rfl⟩ <;> rfl
theorem sh_q {c b s : Nat} (h : SC c b) (hs : s < 8) (μ : am_M) : am_qv ShX (vR (c + 1)) (vI (nI s)) μ = some (vR (b + 3 * s)) := by
  rcases h with ⟨rfl, rfl⟩ | ⟨rfl, rfl⟩
  · exact qv_H hs μ
  · exact qv_G hs μ
theorem xE' {c : Nat} {E : List Ev} {μ : am_M} (h : xE c E μ) : μ c 0 = nI E.length ∧ (∀ i, i < E.length → μ (c + 1) i = nI (eK E i)) ∧ (∀ i, i < E.length → μ (c + 2) i = nI (eH E i)) ∧ (∀ i, i < E.length → μ (c + 3) i = nI (eS E i)) ∧ ∀ i, i < E.length → μ (c + 4) i = nI (eN E i) :=
  ⟨h.1, fun i hi => (h.2 i _ (eAt_in hi)).1, fun i hi => (h.2 i _ (eAt_in hi)).2.1, fun i hi => (h.2 i _ (eAt_in hi)).2.2.1, fun i hi => (h.2 i _ (eAt_in hi)).2.2.2⟩
theorem xE_of {c : Nat} {E : List Ev} {μ : am_M} (h0 : μ c 0 = nI E.length) (h : ∀ i, i < E.length → μ (c + 1) i = nI (eK E i) ∧ μ (c + 2) i = nI (eH E i) ∧ μ (c + 3) i = nI (eS E i) ∧ μ (c + 4) i = nI (eN E i)) : xE c E μ := by
  refine ⟨h0, fun i e he => ?_⟩
  have hi := gE_lt he
  have : e = eAt E i := by rw [eAt_in hi] at he; exact (Option.some.inj he).symm
  rw [this]
  exact h i hi
/-- only cells of P change -/
def Fr (P : Nat → Prop) (μ μ' : am_M) : Prop := ∀ a b, ¬ P a → μ' a b = μ a b
theorem Fr.rf {P : Nat → Prop} {μ : am_M} : Fr P μ μ := fun _ _ _ => rfl
theorem Fr.tr {P : Nat → Prop} {μ μ' μ'' : am_M} (h : Fr P μ μ') (h2 : Fr P μ' μ'') : Fr P μ μ'' := fun a b hp => (h2 a b hp).trans (h a b hp)
theorem Fr.up {P : Nat → Prop} {μ μ' : am_M} (h : Fr P μ μ') {k j : Nat} {v : Int32} (hk : P k) : Fr P μ (am_up μ' k j v) := fun a b hp => by
  rw [am_up_ne _ _ (by by_cases h9 : a = k; (· subst h9; exact absurd hk hp); exact Or.inl h9)]
  exact h a b hp
theorem Fr.mo {P Q : Nat → Prop} {μ μ' : am_M} (h : Fr P μ μ') (hq : ∀ a, P a → Q a) : Fr Q μ μ' := fun a b hp => h a b (fun h9 => hp (hq a h9))
/-- any loop of n turns, some of which return -/
theorem lp_invr {c : am_B} {b : am_T} (I : Nat → List AV → am_M → Prop) (R : Nat → Option AV → am_M → Prop) (n : Nat) (hs : ∀ i e μ, i < n → I i e μ → c e μ = some (true, μ) ∧ ((∃ e' μ', b e μ = some (.inl (e', μ')) ∧ I (i + 1) e' μ') ∨ ∃ r μ', b e μ = some (.inr (r, μ')) ∧ R i r μ')) (he : ∀ e μ, I n e μ → c e μ = some (false, μ)) : ∀ (d k : Nat) (e0 : List AV) (μ0 : am_M), k + d = n → I k e0 μ0 → (∃ e' μ', s_lp c b e0 μ0 = some (.inl (e', μ')) ∧ I n e' μ') ∨ ∃ i r μ', i < n ∧ s_lp c b e0 μ0 = some (.inr (r, μ')) ∧ R i r μ'
  | 0, k, e0, μ0, hk, h0 => by
    rw [Nat.add_zero] at hk
    subst hk
    refine Or.inl ⟨e0, μ0, ?_, h0⟩
    rw [s_lp_eq, he e0 μ0 h0]
    rfl
  | d + 1, k, e0, μ0, hk, h0 => by
    obtain ⟨h1, h2⟩ := hs k e0 μ0 (by omega) h0
    have e1 : s_lp c b e0 μ0 = s_sq b (s_lp c b) e0 μ0 := by rw [s_lp_eq, h1]; rfl
    rcases h2 with ⟨e', μ', h2, h3⟩ | ⟨r, μ', h2, h3⟩
    · have e2 : s_lp c b e0 μ0 = s_lp c b e' μ' := by rw [e1]; unfold s_sq; rw [h2]
      rw [e2]
      exact lp_invr I R n hs he d (k + 1) e' μ' (by omega) h3
    · refine Or.inr ⟨k, r, μ', by omega, ?_, h3⟩
      rw [e1]
      unfold s_sq
      rw [h2]
