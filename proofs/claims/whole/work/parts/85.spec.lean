/-! SPEC: what follows from texts and events, as plain functions -/
/-- strands: how many, heights, kinds, lengths, bladders -/
abbrev Dd : Type := Nat × (Nat → Nat) × (Nat → Nat) × (Nat → Nat) × (Nat → Nat → Nat)
def dn (D : Dd) : Nat := D.1
def dh (D : Dd) (s : Nat) : Nat := D.2.1 s
def dk (D : Dd) (s : Nat) : Nat := D.2.2.1 s
def dl (D : Dd) (s : Nat) : Nat := D.2.2.2.1 s
def db (D : Dd) (s i : Nat) : Nat := D.2.2.2.2 s i
def up1 {α : Type} (f : Nat → α) (k : Nat) (v : α) : Nat → α := fun j => if j = k then v else f j
theorem up1_eq {α : Type} (f : Nat → α) (k : Nat) (v : α) : up1 f k v k = v := by simp [up1]
theorem up1_ne {α : Type} (f : Nat → α) {k j : Nat} (v : α) (h : j ≠ k) : up1 f k v j = f j := by simp [up1, h]
/-- ranges of all of it -/
def wfD (D : Dd) : Prop := dn D ≤ 8 ∧ (∀ s, dh D s < 10) ∧ (∀ s, dk D s < 3) ∧ (∀ s, dl D s ≤ 6) ∧ (∀ s i, db D s i < 4) ∧ ∀ s, s < dn D → 1 ≤ dl D s
/-! the text of strands: state (strands begun, bytes of the last one; 0: none begun) -/
abbrev Pt : Type := Dd × Nat
def p0 : Pt := ((0, fun _ => 0, fun _ => 0, fun _ => 0, fun _ _ => 0), 0)
def okp (q : Pt) (b : Nat) : Bool := if q.2 = 0 then decide (dn q.1 < 8 ∧ 48 ≤ b ∧ b ≤ 57) else if q.2 = 1 then decide (b = 119 ∨ b = 107 ∨ b = 100) else decide ((b = 59 ∧ 2 < q.2) ∨ (97 ≤ b ∧ b ≤ 100 ∧ q.2 < 8))
def kdB (b : Nat) : Nat := if b = 119 then 0 else if b = 107 then 1 else 2
def stp (q : Pt) (b : Nat) : Pt := if q.2 = 0 then ((dn q.1 + 1, up1 (dh q.1) (dn q.1) (b - 48), dk q.1, up1 (dl q.1) (dn q.1) 0, db q.1), 1)
  else if q.2 = 1 then ((dn q.1, dh q.1, up1 (dk q.1) (dn q.1 - 1) (kdB b), dl q.1, db q.1), 2)
  else if b = 59 then (q.1, 0)
  else ((dn q.1, dh q.1, dk q.1, up1 (dl q.1) (dn q.1 - 1) (q.2 - 1), up1 (db q.1) (dn q.1 - 1) (up1 (db q.1 (dn q.1 - 1)) (q.2 - 2) (b - 97))), q.2 + 1)
/-- a byte of a text -/
def tb (T : List Nat) (i : Nat) : Nat := (T[i]?).getD 0
/-- behind i bytes -/
def pst (T : List Nat) (i : Nat) : Pt := fd (fun j q => stp q (tb T j)) i p0
/-- the first byte that does not fit -/
def pbad (T : List Nat) : Option Nat := fnd (fun i => !(okp (pst T i) (tb T i))) T.length
def pfault (T : List Nat) : Option Nat := match pbad T with
  | some j => some j
  | none => if T.length ≠ 0 ∧ (pst T T.length).2 < 3 then some T.length else none
def parsed (T : List Nat) : Dd := match pfault T with
  | some _ => p0.1
  | none => (pst T T.length).1
/-- what is kept while no byte was wrong -/
def wfP (q : Pt) : Prop := dn q.1 ≤ 8 ∧ q.2 ≤ 8 ∧ (q.2 ≠ 0 → 1 ≤ dn q.1) ∧ (∀ s, dh q.1 s < 10) ∧ (∀ s, dk q.1 s < 3) ∧ (∀ s, dl q.1 s ≤ 6) ∧ (∀ s i, db q.1 s i < 4) ∧ (∀ s, s < dn q.1 → (q.2 = 0 ∨ s + 1 < dn q.1) → 1 ≤ dl q.1 s) ∧ (2 ≤ q.2 → dl q.1 (dn q.1 - 1) = q.2 - 2) ∧ (q.2 = 1 → dl q.1 (dn q.1 - 1) = 0)
theorem wfP_0 : wfP p0 := by
  refine ⟨by decide, by decide, fun h => absurd rfl h, fun _ => Nat.le_of_ble_eq_true rfl, fun _ => Nat.le_of_ble_eq_true rfl, fun _ => Nat.le_of_ble_eq_true rfl, fun _ _ => Nat.le_of_ble_eq_true rfl, fun s hs => ?_, fun h => absurd h (by decide), fun h => absurd h (by decide)⟩
  exact absurd hs (by simp [p0, dn])
theorem wfP_s {q : Pt} {b : Nat} (h : wfP q) (ho : okp q b = true) : wfP (stp q b) := by
  obtain ⟨h1, h2, h3, h4, h5, h6, h7, h8, h9, h10⟩ := h
  obtain ⟨D, p⟩ := q
  simp only at h1 h2 h3 h4 h5 h6 h7 h8 h9 h10
  unfold okp at ho
  unfold stp
  by_cases p0 : p = 0
  · simp only [p0, if_true, decide_eq_true_eq] at ho ⊢
    refine ⟨?_, ?_, ?_, fun s => ?_, h5, fun s => ?_, h7, fun s hs hs2 => ?_, fun h => ?_, fun h => ?_⟩
    · show dn D + 1 ≤ 8; omega
    · show 1 ≤ 8; omega
    · intro _; show 1 ≤ dn D + 1; omega
    · show up1 (dh D) (dn D) (b - 48) s < 10
      unfold up1; split
      · omega
      · exact h4 s
    · show up1 (dl D) (dn D) 0 s ≤ 6
      unfold up1; split
      · omega
      · exact h6 s
    · have hs : s < dn D + 1 := hs
      have hs2 : 1 = 0 ∨ s + 1 < dn D + 1 := hs2
      show 1 ≤ up1 (dl D) (dn D) 0 s
      rw [up1_ne _ _ (by omega)]
      exact h8 s (by omega) (Or.inl p0)
    · exact absurd h (by simp)
    · show up1 (dl D) (dn D) 0 (dn D + 1 - 1) = 0
      rw [Nat.add_sub_cancel, up1_eq]
  · have n1 := h3 p0
    by_cases p1 : p = 1
    · simp only [p0, p1, if_false, if_true] at ho ⊢
      refine ⟨h1, by show 2 ≤ 8; omega, fun _ => n1, h4, fun s => ?_, h6, h7, fun s hs hs2 => ?_, fun _ => h10 p1, fun h => absurd h (by simp)⟩
      · show up1 (dk D) (dn D - 1) (kdB b) s < 3
        unfold up1; split
        · unfold kdB; split
          · omega
          · split <;> omega
        · exact h5 s
      · have hs2 : 2 = 0 ∨ s + 1 < dn D := hs2
        exact h8 s hs (Or.inr (by omega))
    · simp only [p0, p1, if_false, decide_eq_true_eq] at ho ⊢
      by_cases hb : b = 59
      · simp only [hb, if_true]
        refine ⟨h1, by show 0 ≤ 8; omega, fun h => absurd rfl h, h4, h5, h6, h7, fun s hs _ => ?_, fun h => absurd h (by simp), fun h => absurd h (by simp)⟩
        have hs : s < dn D := hs
        by_cases hl : s + 1 < dn D
        · exact h8 s hs (Or.inr hl)
        · have e : s = dn D - 1 := by omega
          show 1 ≤ dl D s
          rw [e, h9 (by omega)]
          omega
      · simp only [hb, if_false]
        have hp : p < 8 := by omega
        have hb2 : 97 ≤ b ∧ b ≤ 100 := by omega
        refine ⟨h1, by show p + 1 ≤ 8; omega, fun _ => n1, h4, h5, fun s => ?_, fun s i => ?_, fun s hs hs2 => ?_, fun _ => ?_, fun h => ?_⟩
        · show up1 (dl D) (dn D - 1) (p - 1) s ≤ 6
          unfold up1; split
          · omega
          · exact h6 s
        · show up1 (db D) (dn D - 1) (up1 (db D (dn D - 1)) (p - 2) (b - 97)) s i < 4
          unfold up1; split
          · show (if i = p - 2 then b - 97 else db D (dn D - 1) i) < 4
            split
            · omega
            · exact h7 _ _
          · exact h7 _ _
        · have hs : s < dn D := hs
          have hs2 : p + 1 = 0 ∨ s + 1 < dn D := hs2
          show 1 ≤ up1 (dl D) (dn D - 1) (p - 1) s
          rw [up1_ne _ _ (by omega)]
          exact h8 s hs (Or.inr (by omega))
        · show up1 (dl D) (dn D - 1) (p - 1) (dn D - 1) = p + 1 - 2
          rw [up1_eq]
          omega
        · have h : p + 1 = 1 := h
          omega
theorem pst_s (T : List Nat) (i : Nat) : pst T (i + 1) = stp (pst T i) (tb T i) := rfl
theorem wfP_i {T : List Nat} : ∀ {i : Nat}, (∀ j, j < i → okp (pst T j) (tb T j) = true) → wfP (pst T i)
  | 0, _ => wfP_0
  | i + 1, h => wfP_s (wfP_i (fun j hj => h j (by omega))) (h i (by omega))
theorem pbad_none {T : List Nat} (h : pbad T = none) : ∀ j, j < T.length → okp (pst T j) (tb T j) = true := by
  intro j hj
  have := fnd_none.mp h j hj
  simpa using this
theorem pbad_some {T : List Nat} {j : Nat} (h : pbad T = some j) : j < T.length ∧ okp (pst T j) (tb T j) = false ∧ ∀ i, i < j → okp (pst T i) (tb T i) = true := by
  obtain ⟨h1, h2, h3⟩ := fnd_some.mp h
  exact ⟨h1, by simpa using h2, fun i hi => by simpa using h3 i hi⟩
/-- a text's strands, with their ranges: where there is a fault there are none -/
theorem parsed_n {T : List Nat} {j : Nat} (h : pfault T = some j) : dn (parsed T) = 0 := by
  unfold parsed
  rw [h]
  rfl
theorem parsed_ok {T : List Nat} (h : pfault T = none) : pbad T = none ∧ parsed T = (pst T T.length).1 ∧ (T.length = 0 ∨ 3 ≤ (pst T T.length).2) := by
  have h0 := h
  unfold pfault at h
  cases hb : pbad T with
  | some j => rw [hb] at h; cases h
  | none =>
    rw [hb] at h
    refine ⟨rfl, by unfold parsed; rw [h0], ?_⟩
    by_cases hl : T.length ≠ 0 ∧ (pst T T.length).2 < 3
    · simp [hl] at h
    · omega
theorem parsed_wf {T : List Nat} (h : pfault T = none) : wfD (parsed T) := by
  obtain ⟨h1, h2, h3⟩ := parsed_ok h
  obtain ⟨w1, w2, w3, w4, w5, w6, w7, w8, w9, w10⟩ := wfP_i (pbad_none h1)
  rw [h2]
  refine ⟨w1, w4, w5, w6, w7, fun s hs => ?_⟩
  by_cases hl : s + 1 < dn (pst T T.length).1
  · exact w8 s hs (Or.inr hl)
  · rcases h3 with h3 | h3
    · rw [h3] at hs
      exact absurd hs (by simp [pst, fd, p0, dn])
    · have e : s = dn (pst T T.length).1 - 1 := by omega
      rw [e, w9 (by omega)]
      omega
/-! tides, route -/
def beyond (T : List Nat) (lo hi : Nat) : Option Nat := fnd (fun i => decide (tb T i < lo) || decide (hi < tb T i)) T.length
def snd' (T : List Nat) (lo hi : Nat) : Nat := if beyond T lo hi = none then T.length else 0
def td (T : List Nat) (h : Nat) : Nat := if h < snd' T 48 57 then tb T h - 48 else 5
/-! events -/
def eAt (E : List Ev) (e : Nat) : Ev := (E[e]?).getD (0, 0, 0, 0)
def eK (E : List Ev) (e : Nat) : Nat := (eAt E e).1
def eH (E : List Ev) (e : Nat) : Nat := (eAt E e).2.1
def eS (E : List Ev) (e : Nat) : Nat := (eAt E e).2.2.1
def eN (E : List Ev) (e : Nat) : Nat := (eAt E e).2.2.2
theorem eAt_in {E : List Ev} {e : Nat} (h : e < E.length) : E[e]? = some (eAt E e) := by
  unfold eAt
  rw [List.getElem?_eq_getElem h]
  rfl
theorem eB {E : List Ev} (h : wfE E) (e : Nat) : eK E e < 3 ∧ eH E e < 20 ∧ eS E e < 8 ∧ eN E e < 10 := by
  unfold eK eH eS eN
  by_cases he : e < E.length
  · exact h.2 _ (List.mem_of_getElem? (eAt_in he))
  · have : eAt E e = (0, 0, 0, 0) := by
      unfold eAt
      rw [List.getElem?_eq_none (by omega)]
      rfl
    rw [this]
    decide
/-- one event on a strand that hangs so high, eaten or not -/
def sfr (E : List Ev) (e : Nat) (a : Nat × Bool) : Nat × Bool := if eK E e = 1 then (a.1, true) else if eK E e = 2 then (eN E e, a.2) else a
/-- is it this hour's, this strand's, and not gone -/
def hits (E : List Ev) (g : Nat → Bool) (k h e : Nat) : Bool := decide (eH E e = h) && decide (eS E e = k) && !(g e)
def hourly (E : List Ev) (g : Nat → Bool) (k h n : Nat) (a : Nat × Bool) : Nat × Bool := fd (fun e a => if hits E g k h e then sfr E e a else a) n a
/-- behind an hour's events -/
def hng (E : List Ev) (g : Nat → Bool) (k v : Nat) : Nat → Nat × Bool
  | 0 => hourly E g k 0 E.length (v, false)
  | h + 1 => hourly E g k (h + 1) E.length (hng E g k v h)
/-- behind the events of the hours below h -/
def hnB (E : List Ev) (g : Nat → Bool) (k v h : Nat) : Nat × Bool := fd (fun h a => hourly E g k h E.length a) h (v, false)
theorem hng_B (E : List Ev) (g : Nat → Bool) (k v h : Nat) : hng E g k v h = hnB E g k v (h + 1) := by
  induction h with
  | zero => rfl
  | succ h ih => show hourly E g k (h + 1) E.length (hng E g k v h) = hourly E g k (h + 1) E.length (hnB E g k v (h + 1)); rw [ih]
theorem sfr_lt {E : List Ev} (h : wfE E) {e : Nat} {a : Nat × Bool} (ha : a.1 < 10) : (sfr E e a).1 < 10 := by
  unfold sfr
  split
  · exact ha
  · split
    · exact (eB h e).2.2.2
    · exact ha
theorem hourly_lt {E : List Ev} (h : wfE E) {g : Nat → Bool} {k u n : Nat} {a : Nat × Bool} (ha : a.1 < 10) : (hourly E g k u n a).1 < 10 := by
  refine fd_inv (fun _ (a : Nat × Bool) => a.1 < 10) ha (fun i a _ ha => ?_)
  show (if hits E g k u i then sfr E i a else a).1 < 10
  split
  · exact sfr_lt h ha
  · exact ha
theorem hnB_lt {E : List Ev} (h : wfE E) {g : Nat → Bool} {k v u : Nat} (hv : v < 10) : (hnB E g k v u).1 < 10 := fd_inv (fun _ (a : Nat × Bool) => a.1 < 10) hv (fun _ _ _ ha => hourly_lt h ha)
/-- how a strand of a kind lies, so high over the tide -/
def lie (kind h t v : Nat) : Nat := if t < v then 0 else if (if kind = 1 then 4 else 2) < t - v then 2 else if kind = 2 ∧ h < 10 then 4 else 1
def stt (kind h t : Nat) (a : Nat × Bool) : Nat := if a.2 then 3 else lie kind h t a.1
theorem lie_lt (kind h t v : Nat) : lie kind h t v < 5 := by
  unfold lie
  repeat' split
  all_goals omega
theorem stt_lt (kind h t : Nat) (a : Nat × Bool) : stt kind h t a < 5 := by
  unfold stt
  split
  · omega
  · exact lie_lt _ _ _ _
def noE : Nat → Bool := fun _ => false
/-! what hangs on what -/
def onS (D : Dd) (k : Nat) : Option Nat := fnd (fun s => decide (s ≠ k ∧ db D s 0 = db D k (dl D k - 1))) (dn D)
/-- the chain behind so many steps: the bits met, and where it stands -/
def chn (D : Dd) (k : Nat) : Nat → Int32 × Option Nat
  | 0 => (nI 0, some k)
  | n + 1 => match (chn D k n).2 with
    | some s => ((chn D k n).1 ||| (nI 1 <<< (nI s &&& nI 31)), onS D s)
    | none => chn D k n
def chS (D : Dd) (k : Nat) : Int32 := (chn D k 8).1
