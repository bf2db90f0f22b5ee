/-! tour: rows, what goes on from them, what is best -/
def lh (r : Row) : Nat := (lastH r).getD 0
theorem lh_c (c : Nat × Nat) (r : Row) : lh (c :: r) = c.2 := rfl
theorem better_iff {r b : Row} : better r b = true ↔ b.length < r.length ∨ (r.length = b.length ∧ lh r < lh b) := by
  unfold better lh
  simp only [Bool.or_eq_true, Bool.and_eq_true, decide_eq_true_eq]
theorem better_no {r b : Row} : better r b = false ↔ ¬ (b.length < r.length ∨ (r.length = b.length ∧ lh r < lh b)) := by
  rw [← better_iff]
  cases better r b <;> simp
theorem keep_mono {x r b : Row} (h : better x b = false) : better x (keepR r b) = false := by
  unfold keepR
  by_cases h1 : better r b = true
  · rw [if_pos h1]
    rw [better_no] at h ⊢
    rw [better_iff] at h1
    omega
  · rw [if_neg h1]
    exact h
theorem keep_self (r b : Row) : better r (keepR r b) = false := by
  unfold keepR
  by_cases h1 : better r b = true
  · rw [if_pos h1, better_no]
    omega
  · rw [if_neg h1]
    simpa using h1
theorem keep_no {r b : Row} (h : better r b = false) : keepR r b = b := by unfold keepR; rw [h]; rfl
/-- one child -/
def stR (D : Dd) (t : Nat → Nat) (H : Nat → Nat → Nat × Bool) (f : Nat) (r : Row) (s : Nat) (b : Row) : Row := if usedR r s = true then b else match nxH D t H r s with
    | none => b
    | some h => dfsR D t H f ((s, h) :: r) (keepR ((s, h) :: r) b)
theorem dfs_s (D : Dd) (t : Nat → Nat) (H : Nat → Nat → Nat × Bool) (f : Nat) (r b : Row) : dfsR D t H (f + 1) r b = fd (fun s b => stR D t H f r s b) (dn D) b := rfl
theorem st_used {D : Dd} {t : Nat → Nat} {H : Nat → Nat → Nat × Bool} {f : Nat} {r b : Row} {s : Nat} (h : usedR r s = true) : stR D t H f r s b = b := by unfold stR; rw [if_pos h]
theorem st_none {D : Dd} {t : Nat → Nat} {H : Nat → Nat → Nat × Bool} {f : Nat} {r b : Row} {s : Nat} (h : nxH D t H r s = none) : stR D t H f r s b = b := by unfold stR; split; rfl; rw [h]
theorem st_some {D : Dd} {t : Nat → Nat} {H : Nat → Nat → Nat × Bool} {f : Nat} {r b : Row} {s h : Nat} (h1 : usedR r s = false) (h2 : nxH D t H r s = some h) : stR D t H f r s b = dfsR D t H f ((s, h) :: r) (keepR ((s, h) :: r) b) := by unfold stR; rw [h1, h2]; rfl
theorem dfs_mono (D : Dd) (t : Nat → Nat) (H : Nat → Nat → Nat × Bool) {x : Row} : ∀ f r b, better x b = false → better x (dfsR D t H f r b) = false
  | 0, r, b, h => h
  | f + 1, r, b, h => by
    rw [dfs_s]
    refine fd_inv (fun _ b => better x b = false) h (fun s b _ hb => ?_)
    cases hu : usedR r s
    · cases hn : nxH D t H r s with
      | none => show better x (stR D t H f r s b) = false; rw [st_none hn]; exact hb
      | some h => show better x (stR D t H f r s b) = false; rw [st_some hu hn]; exact dfs_mono D t H f _ _ (keep_mono hb)
    · show better x (stR D t H f r s b) = false
      rw [st_used hu]
      exact hb
theorem st_mono {D : Dd} {t : Nat → Nat} {H : Nat → Nat → Nat × Bool} {x : Row} {f : Nat} {r b : Row} {s : Nat} (hb : better x b = false) : better x (stR D t H f r s b) = false := by
  cases hu : usedR r s
  · cases hn : nxH D t H r s with
    | none => rw [st_none hn]; exact hb
    | some h => rw [st_some hu hn]; exact dfs_mono D t H f _ _ (keep_mono hb)
  · rw [st_used hu]
    exact hb
/-- w goes on from r, its last step first -/
def vx (D : Dd) (t : Nat → Nat) (H : Nat → Nat → Nat × Bool) (r : Row) : Row → Prop
  | [] => True
  | q :: w => vx D t H r w ∧ q.1 < dn D ∧ usedR (w ++ r) q.1 = false ∧ nxH D t H (w ++ r) q.1 = some q.2
theorem vx_app {D : Dd} {t : Nat → Nat} {H : Nat → Nat → Nat × Bool} {r : Row} {c : Nat × Nat} : ∀ w, vx D t H r (w ++ [c]) ↔ vx D t H r [c] ∧ vx D t H (c :: r) w
  | [] => ⟨fun h => ⟨h, trivial⟩, fun h => h.1⟩
  | q :: w => by
    show (vx D t H r (w ++ [c]) ∧ q.1 < dn D ∧ usedR (w ++ [c] ++ r) q.1 = false ∧ nxH D t H (w ++ [c] ++ r) q.1 = some q.2) ↔ vx D t H r [c] ∧ (vx D t H (c :: r) w ∧ q.1 < dn D ∧ usedR (w ++ c :: r) q.1 = false ∧ nxH D t H (w ++ c :: r) q.1 = some q.2)
    rw [vx_app w, List.append_assoc]
    exact ⟨fun ⟨⟨a, b⟩, c⟩ => ⟨a, b, c⟩, fun ⟨a, b, c⟩ => ⟨⟨a, b⟩, c⟩⟩
theorem vx_one {D : Dd} {t : Nat → Nat} {H : Nat → Nat → Nat × Bool} {r : Row} {s h : Nat} : vx D t H r [(s, h)] ↔ s < dn D ∧ usedR r s = false ∧ nxH D t H r s = some h := ⟨fun ⟨_, h⟩ => h, fun h => ⟨trivial, h⟩⟩
def Dom (D : Dd) (t : Nat → Nat) (H : Nat → Nat → Nat × Bool) (r b : Row) : Prop := ∀ w, vx D t H r w → better (w ++ r) b = false
theorem Dom.child {D : Dd} {t : Nat → Nat} {H : Nat → Nat → Nat × Bool} {r b : Row} (h : Dom D t H r b) {c : Nat × Nat} (hc : vx D t H r [c]) : Dom D t H (c :: r) b := by
  intro w hw
  have := h (w ++ [c]) ((vx_app w).mpr ⟨hc, hw⟩)
  rw [List.append_assoc] at this
  exact this
theorem Dom.self {D : Dd} {t : Nat → Nat} {H : Nat → Nat → Nat × Bool} {r b : Row} (h : Dom D t H r b) : better r b = false := h [] trivial
/-- where nothing better comes, the search changes nothing -/
theorem dfs_dom {D : Dd} {t : Nat → Nat} {H : Nat → Nat → Nat × Bool} : ∀ f {r b : Row}, Dom D t H r b → dfsR D t H f r b = b
  | 0, r, b, _ => rfl
  | f + 1, r, b, h => by
    rw [dfs_s]
    have key : ∀ n, n ≤ dn D → fd (fun s b => stR D t H f r s b) n b = b := by
      intro n hn
      induction n with
      | zero => rfl
      | succ n ih =>
        rw [fd_s, ih (by omega)]
        cases hu : usedR r n
        · cases hn2 : nxH D t H r n with
          | none => exact st_none hn2
          | some v =>
            have hc := h.child (vx_one.mpr ⟨by omega, hu, hn2⟩)
            rw [st_some hu hn2, keep_no hc.self]
            exact dfs_dom f hc
        · exact st_used hu
    exact key (dn D) (Nat.le_refl _)
/-- the search misses nothing -/
theorem dfs_all {D : Dd} {t : Nat → Nat} {H : Nat → Nat → Nat × Bool} : ∀ f {r b : Row}, better r b = false → ∀ w, vx D t H r w → w.length ≤ f → better (w ++ r) (dfsR D t H f r b) = false
  | 0, r, b, h, w, hw, hl => by
    cases w with
    | nil => exact h
    | cons q w => simp at hl
  | f + 1, r, b, h, w, hw, hl => by
    rcases List.eq_nil_or_concat w with h0 | ⟨w', c, h0⟩
    · rw [h0]
      exact dfs_mono D t H (f + 1) r b h
    · rw [List.concat_eq_append] at h0
      subst h0
      obtain ⟨s, v⟩ := c
      obtain ⟨h1, h2⟩ := (vx_app w').mp hw
      obtain ⟨a1, a2, a3⟩ := vx_one.mp h1
      rw [List.append_assoc]
      show better (w' ++ (s, v) :: r) _ = false
      rw [dfs_s]
      have key : ∀ n, s < n → better (w' ++ (s, v) :: r) (fd (fun s b => stR D t H f r s b) n b) = false := by
        intro n hn
        induction n with
        | zero => omega
        | succ n ih =>
          rw [fd_s]
          by_cases e : n = s
          · subst e
            rw [st_some a2 a3]
            exact dfs_all f (keep_self _ _) w' h2 (by simp at hl; omega)
          · exact st_mono (ih (by omega))
      exact key (dn D) a1
/-! rows that stand alike -/
def eqv (p q : Row) : Prop := (∀ s, usedR p s = usedR q s) ∧ p.head? = q.head? ∧ p.length = q.length
theorem eqv.rf (p : Row) : eqv p p := ⟨fun _ => rfl, rfl, rfl⟩
theorem eqv.sy {p q : Row} (h : eqv p q) : eqv q p := ⟨fun s => (h.1 s).symm, h.2.1.symm, h.2.2.symm⟩
theorem nxH_head {D : Dd} {t : Nat → Nat} {H : Nat → Nat → Nat × Bool} {p q : Row} (h : p.head? = q.head?) (s : Nat) : nxH D t H p s = nxH D t H q s := by
  cases p with
  | nil => cases q with
    | nil => rfl
    | cons c q => cases h
  | cons c p => cases q with
    | nil => cases h
    | cons d q => cases h; rfl
theorem used_app (w q : Row) (s : Nat) : usedR (w ++ q) s = (usedR w s || usedR q s) := by unfold usedR; rw [List.any_append]
theorem head_app {w p q : Row} (h : p.head? = q.head?) : (w ++ p).head? = (w ++ q).head? := by
  cases w with
  | nil => exact h
  | cons c w => rfl
theorem eqv.vx {D : Dd} {t : Nat → Nat} {H : Nat → Nat → Nat × Bool} {p q : Row} (h : eqv p q) : ∀ w, vx D t H p w → vx D t H q w
  | [], _ => trivial
  | c :: w, hw => by
    obtain ⟨a, b, c1, d⟩ := hw
    refine ⟨h.vx w a, b, ?_, ?_⟩
    · rw [used_app, ← h.1, ← used_app]; exact c1
    · rw [← nxH_head (head_app h.2.1)]; exact d
theorem eqv.bt {p q : Row} (h : eqv p q) (w b : Row) : better (w ++ p) b = better (w ++ q) b := by
  have e1 : (w ++ p).length = (w ++ q).length := by rw [List.length_append, List.length_append, h.2.2]
  have e2 : lastH (w ++ p) = lastH (w ++ q) := by unfold lastH; rw [head_app h.2.1]
  unfold better
  rw [e1, e2]
theorem eqv.dom {D : Dd} {t : Nat → Nat} {H : Nat → Nat → Nat × Bool} {p q b : Row} (h : eqv p q) (hd : Dom D t H p b) : Dom D t H q b := fun w hw => by
  rw [← h.bt]
  exact hd w (h.sy.vx w hw)
/-! sets as numbers -/
def setN : Row → Nat
  | [] => 0
  | c :: r => setN r ||| 2 ^ c.1
theorem setN_bt : ∀ (r : Row) (s : Nat), (setN r).testBit s = usedR r s
  | [], s => by simp [setN, usedR]
  | c :: r, s => by
    show (setN r ||| 2 ^ c.1).testBit s = usedR (c :: r) s
    rw [Nat.testBit_or, setN_bt r s, Nat.testBit_two_pow]
    show _ = (decide (c.1 = s) || usedR r s)
    rw [Bool.or_comm]
theorem setN_lt {D : Dd} {t : Nat → Nat} {H : Nat → Nat → Nat × Bool} (hw : dn D ≤ 8) : ∀ r, vx D t H [] r → setN r < 2 ^ 8
  | [], _ => by decide
  | c :: r, h => Nat.or_lt_two_pow (setN_lt hw r h.1) (Nat.pow_lt_pow_right (by omega) (by have := h.2.1; omega))
theorem cnt_one {p q : Nat → Bool} {s n : Nat} (hs : s < n) (h0 : p s = false) (h : ∀ i, q i = (decide (s = i) || p i)) : cnt q n = cnt p n + 1 := by
  induction n with
  | zero => omega
  | succ n ih =>
    rw [cnt_s, cnt_s]
    by_cases e : s = n
    · subst e
      have e1 : cnt q s = cnt p s := cnt_congr (fun i hi => by rw [h i, decide_eq_false (by omega), Bool.false_or])
      rw [h s, h0, e1]
      simp
    · rw [ih (by omega), h n, decide_eq_false e, Bool.false_or]
      split <;> omega
theorem vx_len {D : Dd} {t : Nat → Nat} {H : Nat → Nat → Nat × Bool} : ∀ r, vx D t H [] r → cnt (usedR r) (dn D) = r.length
  | [], _ => by
    show cnt (fun _ => false) (dn D) = 0
    exact cnt_F _
  | c :: r, h => by
    obtain ⟨h1, h2, h3, h4⟩ := h
    rw [List.append_nil] at h3
    rw [cnt_one (p := usedR r) (q := usedR (c :: r)) h2 h3 (fun i => rfl), vx_len r h1]
    rfl
theorem vx_le {D : Dd} {t : Nat → Nat} {H : Nat → Nat → Nat × Bool} {r : Row} (h : vx D t H [] r) : r.length ≤ dn D := by
  rw [← vx_len r h]
  exact cnt_le _ _
theorem vx_cat {D : Dd} {t : Nat → Nat} {H : Nat → Nat → Nat × Bool} {r : Row} (h : vx D t H [] r) : ∀ w, vx D t H r w → vx D t H [] (w ++ r)
  | [], _ => h
  | c :: w, hw => ⟨vx_cat h w hw.1, hw.2.1, by rw [List.append_nil]; exact hw.2.2.1, by rw [List.append_nil]; exact hw.2.2.2⟩
theorem eqv_set {D : Dd} {t : Nat → Nat} {H : Nat → Nat → Nat × Bool} {p q : Row} (hp : vx D t H [] p) (hq : vx D t H [] q) (h1 : setN p = setN q) (h2 : p.head? = q.head?) : eqv p q := by
  have e1 : ∀ s, usedR p s = usedR q s := fun s => by rw [← setN_bt, ← setN_bt, h1]
  refine ⟨e1, h2, ?_⟩
  rw [← vx_len p hp, ← vx_len q hq]
  exact cnt_congr (fun i _ => e1 i)
/-! hours -/
theorem nxH_lt {D : Dd} {t : Nat → Nat} {H : Nat → Nat → Nat × Bool} {r : Row} {s h : Nat} (hn : nxH D t H r s = some h) : h < 20 ∧ (∀ c r', r = c :: r' → c.2 + 1 ≤ h) := by
  cases r with
  | nil =>
    have hn' : rdH D t H s 0 (H s 0).1 = some h := hn
    unfold rdH at hn'
    exact ⟨(rdS_lt hn').2.1, fun c r' h => (by cases h)⟩
  | cons c r =>
    have hn' : rdH D t H s (c.2 + 1) (H c.1 c.2).1 = some h := hn
    unfold rdH at hn'
    have := rdS_lt hn'
    exact ⟨this.2.1, fun d r' h => by cases h; exact this.1⟩
theorem vx_hour {D : Dd} {t : Nat → Nat} {H : Nat → Nat → Nat × Bool} {c : Nat × Nat} {r : Row} : ∀ w, vx D t H (c :: r) w → c.2 + w.length ≤ lh (w ++ c :: r) ∧ (w ≠ [] → lh (w ++ c :: r) < 20)
  | [], _ => ⟨Nat.le_refl _, fun h => absurd rfl h⟩
  | d :: w, hw => by
    obtain ⟨h1, h2⟩ := vx_hour w hw.1
    obtain ⟨a1, a2⟩ := nxH_lt hw.2.2.2
    refine ⟨?_, fun _ => a1⟩
    show c.2 + (w.length + 1) ≤ d.2
    cases w with
    | nil => have := a2 c r rfl; simp; omega
    | cons e w =>
      have := a2 e (w ++ c :: r) rfl
      have h1 : c.2 + (w.length + 1) ≤ e.2 := h1
      simp only [List.length_cons]
      omega
theorem vx_h20 {D : Dd} {t : Nat → Nat} {H : Nat → Nat → Nat × Bool} {r : Row} (h : vx D t H [] r) : lh r < 20 := by
  cases r with
  | nil => exact Nat.le_of_ble_eq_true rfl
  | cons c r => exact (nxH_lt h.2.2.2).1
/-- the bound -/
def mgb (n : Nat) (r b : Row) : Bool := decide (b.length < r.length + min (n - r.length) (19 - lh r)) || (decide (r.length + min (n - r.length) (19 - lh r) = b.length) && decide (lh r + b.length - r.length < lh b))
theorem mgb_dom {D : Dd} {t : Nat → Nat} {H : Nat → Nat → Nat × Bool} {c : Nat × Nat} {r b : Row} (hv : vx D t H [] (c :: r)) (hb : better (c :: r) b = false) (hm : mgb (dn D) (c :: r) b = false) : Dom D t H (c :: r) b := by
  intro w hw
  cases w with
  | nil => exact hb
  | cons d w =>
    obtain ⟨h1, h2⟩ := vx_hour (d :: w) hw
    have h2 := h2 (by simp)
    have h3 := vx_le (vx_cat hv (d :: w) hw)
    rw [List.length_append] at h3
    unfold mgb at hm
    rw [Bool.or_eq_false_iff, Bool.and_eq_false_iff, decide_eq_false_iff_not, decide_eq_false_iff_not, decide_eq_false_iff_not] at hm
    rw [better_no, List.length_append]
    have e1 : lh (c :: r) = c.2 := rfl
    rw [e1] at hm
    generalize (d :: w).length = wl at *
    generalize (c :: r).length = rl at *
    generalize lh (d :: w ++ c :: r) = lx at *
    omega
