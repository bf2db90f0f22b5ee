/-! THE ABSTRACT STATE: texts, events, sightings, sheets (lost, form, items), the latest finding -/
abbrev Ev : Type := Nat × Nat × Nat × Nat
abbrev Sg : Type := (Nat → List Nat) × List Ev × List (Nat × Nat × Nat) × (Nat → Bool × Nat × List Int32) × Int32
def sT (σ : Sg) (t : Nat) : List Nat := σ.1 t
def sE (σ : Sg) : List Ev := σ.2.1
def sG (σ : Sg) : List (Nat × Nat × Nat) := σ.2.2.1
def sF (σ : Sg) (s : Nat) : Bool × Nat × List Int32 := σ.2.2.2.1 s
def sL (σ : Sg) : Int32 := σ.2.2.2.2
def cap (t : Nat) : Nat := if t = 0 then 71 else if t = 1 then 20 else 8
theorem cap_le (t : Nat) : cap t ≤ 71 := by unfold cap; split <;> (try split) <;> omega
def wfT (T : Nat → List Nat) : Prop := ∀ t, t < 3 → (T t).length ≤ cap t ∧ ∀ b ∈ T t, b < 256
def wfE (E : List Ev) : Prop := E.length ≤ 8 ∧ ∀ e ∈ E, e.1 < 3 ∧ e.2.1 < 20 ∧ e.2.2.1 < 8 ∧ e.2.2.2 < 10
def wfG (G : List (Nat × Nat × Nat)) : Prop := G.length ≤ 8 ∧ ∀ g ∈ G, g.1 < 20 ∧ g.2.1 < 8 ∧ g.2.2 < 5
def wfF (F : Nat → Bool × Nat × List Int32) : Prop := ∀ s, s < 4 → (F s).2.1 < 3 ∧ (F s).2.2.length ≤ 60
def wfS (σ : Sg) : Prop := wfT (sT σ) ∧ wfE (sE σ) ∧ wfG (sG σ) ∧ wfF (sF σ)
/-! the class's memory -/
def xT (T : Nat → List Nat) (μ : am_M) : Prop := ∀ t, t < 3 → μ (1 + 2 * t) 1 = nI (cap t) ∧ μ (1 + 2 * t) 2 = nI (T t).length ∧ ∀ i b, (T t)[i]? = some b → μ (2 + 2 * t) i = nI b
/-- events as the class keeps them, at its cells c .. c + 4 -/
def xE (c : Nat) (E : List Ev) (μ : am_M) : Prop := μ c 0 = nI E.length ∧ ∀ i e, E[i]? = some e → μ (c + 1) i = nI e.1 ∧ μ (c + 2) i = nI e.2.1 ∧ μ (c + 3) i = nI e.2.2.1 ∧ μ (c + 4) i = nI e.2.2.2
def xG (G : List (Nat × Nat × Nat)) (μ : am_M) : Prop := μ 85 0 = nI G.length ∧ ∀ i g, G[i]? = some g → μ 86 i = nI g.1 ∧ μ 87 i = nI g.2.1 ∧ μ 88 i = nI g.2.2
def xF (F : Nat → Bool × Nat × List Int32) (μ : am_M) : Prop := ∀ s, s < 4 → μ (94 + 2 * s) 0 = bI (F s).1 ∧ ((F s).1 = false → μ (94 + 2 * s) 1 = nI (F s).2.1) ∧ μ (94 + 2 * s) 2 = nI (F s).2.2.length ∧ ∀ i v, (F s).2.2[i]? = some v → μ (95 + 2 * s) i = v
def RX (σ : Sg) (μ : am_M) : Prop := xT (sT σ) μ ∧ xE 15 (sE σ) μ ∧ xG (sG σ) μ ∧ xF (sF σ) μ ∧ μ 0 15 = sL σ
/-! the reference's memory -/
def mT (T : Nat → List Nat) (μ : am_M) : Prop := ∀ t, t < 3 → μ 6 t = nI (T t).length ∧ ∀ i b, (T t)[i]? = some b → μ 5 (72 * t + i) = nI b
def mE (E : List Ev) (μ : am_M) : Prop := μ 0 15 = nI E.length ∧ ∀ i e, E[i]? = some e → μ 13 (4 * i) = nI e.1 ∧ μ 13 (4 * i + 1) = nI e.2.1 ∧ μ 13 (4 * i + 2) = nI e.2.2.1 ∧ μ 13 (4 * i + 3) = nI e.2.2.2
def mG (G : List (Nat × Nat × Nat)) (μ : am_M) : Prop := μ 0 31 = nI G.length ∧ ∀ i g, G[i]? = some g → μ 25 (3 * i) = nI g.1 ∧ μ 25 (3 * i + 1) = nI g.2.1 ∧ μ 25 (3 * i + 2) = nI g.2.2
def mF (F : Nat → Bool × Nat × List Int32) (μ : am_M) : Prop := ∀ s, s < 4 → μ 1 s = (if (F s).1 then -1 else nI (F s).2.1) ∧ μ 2 s = nI (F s).2.2.length ∧ ∀ i v, (F s).2.2[i]? = some v → μ 3 (60 * s + i) = v
def RM (σ : Sg) (μ : am_M) : Prop := mT (sT σ) μ ∧ mE (sE σ) μ ∧ mG (sG σ) μ ∧ mF (sF σ) μ ∧ μ 0 4 = sL σ ∧ μ 0 22 = 0
/-! what depends on which cells -/
theorem xT.kept {T : Nat → List Nat} {μ μ' : am_M} (h : xT T μ) (k : ∀ a b, a < 7 → ¬ (a = 0) → μ' a b = μ a b) : xT T μ' := by
  intro t ht
  obtain ⟨h1, h2, h3⟩ := h t ht
  exact ⟨by rw [k _ _ (by omega) (by omega)]; exact h1, by rw [k _ _ (by omega) (by omega)]; exact h2, fun i b hb => by rw [k _ _ (by omega) (by omega)]; exact h3 i b hb⟩
theorem xE.kept {c : Nat} {E : List Ev} {μ μ' : am_M} (h : xE c E μ) (k : ∀ a b, c ≤ a → a < c + 5 → μ' a b = μ a b) : xE c E μ' := by
  refine ⟨by rw [k _ _ (by omega) (by omega)]; exact h.1, fun i e he => ?_⟩
  obtain ⟨h1, h2, h3, h4⟩ := h.2 i e he
  exact ⟨by rw [k _ _ (by omega) (by omega)]; exact h1, by rw [k _ _ (by omega) (by omega)]; exact h2, by rw [k _ _ (by omega) (by omega)]; exact h3, by rw [k _ _ (by omega) (by omega)]; exact h4⟩
theorem xG.kept {G : List (Nat × Nat × Nat)} {μ μ' : am_M} (h : xG G μ) (k : ∀ a b, 85 ≤ a → a < 89 → μ' a b = μ a b) : xG G μ' := by
  refine ⟨by rw [k _ _ (by omega) (by omega)]; exact h.1, fun i e he => ?_⟩
  obtain ⟨h1, h2, h3⟩ := h.2 i e he
  exact ⟨by rw [k _ _ (by omega) (by omega)]; exact h1, by rw [k _ _ (by omega) (by omega)]; exact h2, by rw [k _ _ (by omega) (by omega)]; exact h3⟩
theorem xF.kept {F : Nat → Bool × Nat × List Int32} {μ μ' : am_M} (h : xF F μ) (k : ∀ a b, 94 ≤ a → a < 102 → μ' a b = μ a b) : xF F μ' := by
  intro s hs
  obtain ⟨h1, h2, h3, h4⟩ := h s hs
  exact ⟨by rw [k _ _ (by omega) (by omega)]; exact h1, fun hf => by rw [k _ _ (by omega) (by omega)]; exact h2 hf, by rw [k _ _ (by omega) (by omega)]; exact h3, fun i v hv => by rw [k _ _ (by omega) (by omega)]; exact h4 i v hv⟩
theorem mT.kept {T : Nat → List Nat} {μ μ' : am_M} (h : mT T μ) (k : ∀ a b, a = 5 ∨ a = 6 → μ' a b = μ a b) : mT T μ' := by
  intro t ht
  obtain ⟨h1, h2⟩ := h t ht
  exact ⟨by rw [k _ _ (by omega)]; exact h1, fun i b hb => by rw [k _ _ (by omega)]; exact h2 i b hb⟩
theorem mE.kept {E : List Ev} {μ μ' : am_M} (h : mE E μ) (k0 : μ' 0 15 = μ 0 15) (k : ∀ b, μ' 13 b = μ 13 b) : mE E μ' := by
  refine ⟨by rw [k0]; exact h.1, fun i e he => ?_⟩
  obtain ⟨h1, h2, h3, h4⟩ := h.2 i e he
  exact ⟨by rw [k]; exact h1, by rw [k]; exact h2, by rw [k]; exact h3, by rw [k]; exact h4⟩
theorem mG.kept {G : List (Nat × Nat × Nat)} {μ μ' : am_M} (h : mG G μ) (k0 : μ' 0 31 = μ 0 31) (k : ∀ b, μ' 25 b = μ 25 b) : mG G μ' := by
  refine ⟨by rw [k0]; exact h.1, fun i e he => ?_⟩
  obtain ⟨h1, h2, h3⟩ := h.2 i e he
  exact ⟨by rw [k]; exact h1, by rw [k]; exact h2, by rw [k]; exact h3⟩
theorem mF.kept {F : Nat → Bool × Nat × List Int32} {μ μ' : am_M} (h : mF F μ) (k : ∀ a b, 1 ≤ a → a < 4 → μ' a b = μ a b) : mF F μ' := by
  intro s hs
  obtain ⟨h1, h2, h3⟩ := h s hs
  exact ⟨by rw [k _ _ (by omega) (by omega)]; exact h1, by rw [k _ _ (by omega) (by omega)]; exact h2, fun i v hv => by rw [k _ _ (by omega) (by omega)]; exact h3 i v hv⟩
/-! changes of the abstract state -/
def pT (σ : Sg) (t : Nat) (l : List Nat) : Sg := (fun u => if u = t then l else sT σ u, sE σ, sG σ, sF σ, sL σ)
def pE (σ : Sg) (E : List Ev) : Sg := (sT σ, E, sG σ, sF σ, sL σ)
def pG (σ : Sg) (G : List (Nat × Nat × Nat)) : Sg := (sT σ, sE σ, G, sF σ, sL σ)
def pF (σ : Sg) (s : Nat) (x : Bool × Nat × List Int32) : Sg := (sT σ, sE σ, sG σ, fun u => if u = s then x else sF σ u, sL σ)
def pL (σ : Sg) (v : Int32) : Sg := (sT σ, sE σ, sG σ, sF σ, v)
theorem gE_app {α : Type} {l : List α} {a b : α} {i : Nat} (h : (l ++ [a])[i]? = some b) : l[i]? = some b ∨ (i = l.length ∧ b = a) := by
  by_cases hi : i < l.length
  · rw [List.getElem?_append_left hi] at h
    exact Or.inl h
  · rw [List.getElem?_append_right (by omega)] at h
    have hz : i - l.length < 1 := (List.getElem?_eq_some_iff.mp h).1
    rw [show i - l.length = 0 by omega] at h
    cases h
    exact Or.inr ⟨by omega, rfl⟩
theorem gE_lt {α : Type} {l : List α} {b : α} {i : Nat} (h : l[i]? = some b) : i < l.length := (List.getElem?_eq_some_iff.mp h).1
theorem gE_take {α : Type} {l : List α} {b : α} {i n : Nat} (h : (l.take n)[i]? = some b) : l[i]? = some b ∧ i < n := by
  rw [List.getElem?_take] at h
  split at h
  · exact ⟨h, by assumption⟩
  · cases h
