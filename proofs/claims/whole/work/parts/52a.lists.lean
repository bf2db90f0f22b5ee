/-! a world out of its shape, cell by cell -/
def am_mi (ad : Nat → Nat) (f : Nat → Int32) : Nat → List (Option Nat) → List Value
  | _, [] => []
  | j, o :: t => am_sv ad f j o :: am_mi ad f (j + 1) t
theorem am_mi_eq (ad : Nat → Nat) (f : Nat → Int32) : ∀ (sl : List (Option Nat)) (k : Nat), sl.mapIdx (fun i o => am_sv ad f (k + i) o) = am_mi ad f k sl
  | [], k => rfl
  | o :: t, k => by
    rw [List.mapIdx_cons]
    have h := am_mi_eq ad f t (k + 1)
    have e : (fun i o => am_sv ad f (k + (i + 1)) o) = (fun i o => am_sv ad f (k + 1 + i) o) := by
      funext i o
      rw [show k + (i + 1) = k + 1 + i by omega]
    show am_sv ad f (k + 0) o :: List.mapIdx (fun i o => am_sv ad f (k + (i + 1)) o) t = _
    rw [e, h]
    rfl
def am_ce2 (ad : Nat → Nat) (cs : Nat → ClassId) (f : Nat → Int32) : am_SC → va_E
  | .inl n => .inl (cs 0, n, .inl f)
  | .inr (.inl (t, rs)) => .inl (cs t, rs.length, .inr (.inr (.inr (.inr (fun j => (rs[j]?).map ad)))))
  | .inr (.inr (ci, sl)) => .inr (ci, am_mi ad f 0 sl)
theorem am_ce2_eq (ad : Nat → Nat) (cs : Nat → ClassId) (f : Nat → Int32) (sc : am_SC) : am_ce ad cs f sc = am_ce2 ad cs f sc := by
  rcases sc with n | ⟨t, rs⟩ | ⟨ci, sl⟩
  · rfl
  · rfl
  · have := am_mi_eq ad f sl 0
    simp only [Nat.zero_add] at this
    show Sum.inr (ci, sl.mapIdx (am_sv ad f)) = Sum.inr (ci, am_mi ad f 0 sl)
    rw [← this]
def am_wf (ad : Nat → Nat) (cs : Nat → ClassId) (μ : am_M) : Nat → List am_SC → va_W
  | _, [] => []
  | k, sc :: t => (ad k, am_ce2 ad cs (μ k) sc) :: am_wf ad cs μ (k + 1) t
theorem am_wf_eq0 (ad : Nat → Nat) (cs : Nat → ClassId) (μ : am_M) : ∀ (sh : List am_SC) (k : Nat), sh.mapIdx (fun i sc => (ad (k + i), am_ce ad cs (μ (k + i)) sc)) = am_wf ad cs μ k sh
  | [], k => rfl
  | o :: t, k => by
    rw [List.mapIdx_cons]
    have h := am_wf_eq0 ad cs μ t (k + 1)
    have e : (fun i sc => (ad (k + (i + 1)), am_ce ad cs (μ (k + (i + 1))) sc)) = (fun i sc => (ad (k + 1 + i), am_ce ad cs (μ (k + 1 + i)) sc)) := by
      funext i sc
      rw [show k + (i + 1) = k + 1 + i by omega]
    show (ad (k + 0), am_ce ad cs (μ (k + 0)) o) :: List.mapIdx (fun i sc => (ad (k + (i + 1)), am_ce ad cs (μ (k + (i + 1))) sc)) t = _
    rw [e, h, am_ce2_eq]
    rfl
theorem am_wf_eq (Sh : List am_SC) (ad : Nat → Nat) (cs : Nat → ClassId) (μ : am_M) : am_wl Sh ad cs μ = am_wf ad cs μ 0 Sh := by
  have := am_wf_eq0 ad cs μ Sh 0
  simp only [Nat.zero_add] at this
  exact this
