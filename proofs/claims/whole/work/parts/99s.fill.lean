/-! fill: counting and the least way -/
def alw (B : Nat → Nat) (i d : Nat) : Bool := decide (B i = 4) || decide (B i = d)
def unl (prev : Option Nat) (d : Nat) : Bool := decide (¬ prev = some d)
/-- in how many ways m places from i on may be filled -/
def cW (B : Nat → Nat) : Nat → Nat → Option Nat → Nat
  | 0, _, _ => 1
  | m + 1, i, prev => fd (fun d a => if unl prev d = true then a + (if alw B i d = true then cW B m (i + 1) (some d) else 0) else a) 4 0
theorem cW_s (B : Nat → Nat) (m i : Nat) (prev : Option Nat) : cW B (m + 1) i prev = fd (fun d a => if unl prev d = true then a + (if alw B i d = true then cW B m (i + 1) (some d) else 0) else a) 4 0 := rfl
theorem cW_le (B : Nat → Nat) : ∀ m i prev, cW B m i prev ≤ 4 ^ m
  | 0, _, _ => Nat.le_refl _
  | m + 1, i, prev => by
    rw [cW_s]
    have key : (fun (n a : Nat) => a ≤ n * 4 ^ m) 4 (fd (fun d a => if unl prev d = true then a + (if alw B i d = true then cW B m (i + 1) (some d) else 0) else a) 4 0) := by
      refine fd_inv (fun (n a : Nat) => a ≤ n * 4 ^ m) (by omega) (fun d a _ ha => ?_)
      have h1 := cW_le B m (i + 1) (some d)
      show (if unl prev d = true then a + (if alw B i d = true then cW B m (i + 1) (some d) else 0) else a) ≤ (d + 1) * 4 ^ m
      rw [Nat.add_mul, Nat.one_mul]
      split
      · split
        · omega
        · omega
      · omega
    rw [Nat.pow_succ, Nat.mul_comm]
    exact key
/-- the least letter for place i, with m places behind it -/
def lB (B : Nat → Nat) (m i : Nat) (prev : Option Nat) : Option Nat := fnd (fun d => unl prev d && (alw B i d && decide (0 < cW B m (i + 1) (some d)))) 4
/-- letter k of the least way of m + 1 places -/
def lws (B : Nat → Nat) (m i : Nat) (prev : Option Nat) : Nat → Option Nat
  | 0 => lB B m i prev
  | k + 1 => match lws B m i prev k with
    | none => none
    | some d => lB B (m - (k + 1)) (i + (k + 1)) (some d)
theorem lws_s (B : Nat → Nat) (m i : Nat) (prev : Option Nat) (k : Nat) : lws B m i prev (k + 1) = match lws B m i prev k with
    | none => none
    | some d => lB B (m - (k + 1)) (i + (k + 1)) (some d) := rfl
theorem lws_unroll (B : Nat → Nat) (m i : Nat) (prev : Option Nat) : ∀ k, lws B (m + 1) i prev (k + 1) = match lB B (m + 1) i prev with
    | none => none
    | some d => lws B m (i + 1) (some d) k
  | 0 => by
    rw [lws_s]
    show (match lB B (m + 1) i prev with
      | none => none
      | some d => lB B (m + 1 - 1) (i + 1) (some d)) = _
    cases lB B (m + 1) i prev with
    | none => rfl
    | some d => rfl
  | k + 1 => by
    rw [lws_s, lws_unroll B m i prev k]
    cases lB B (m + 1) i prev with
    | none => rfl
    | some d =>
      show (match lws B m (i + 1) (some d) k with
        | none => none
        | some d => lB B (m + 1 - (k + 1 + 1)) (i + (k + 1 + 1)) (some d)) = lws B m (i + 1) (some d) (k + 1)
      rw [lws_s, show m + 1 - (k + 1 + 1) = m - (k + 1) by omega, show i + (k + 1 + 1) = i + 1 + (k + 1) by omega]
/-! by codes -/
def vld (B : Nat → Nat) : Nat → Nat → Option Nat → Nat → Bool
  | 0, _, _, _ => true
  | m + 1, i, prev, c => unl prev (c / 4 ^ m) && (alw B i (c / 4 ^ m) && vld B m (i + 1) (some (c / 4 ^ m)) (c % 4 ^ m))
theorem cnt_plus (p : Nat → Bool) (m : Nat) : ∀ n, cnt p (m + n) = cnt p m + cnt (fun i => p (m + i)) n
  | 0 => rfl
  | n + 1 => by
    show (if p (m + n) = true then cnt p (m + n) + 1 else cnt p (m + n)) = cnt p m + (if p (m + n) = true then cnt (fun i => p (m + i)) n + 1 else cnt (fun i => p (m + i)) n)
    rw [cnt_plus p m n]
    split <;> omega
theorem cnt_blk (p : Nat → Bool) (M : Nat) : ∀ n, cnt p (n * M) = fd (fun d a => a + cnt (fun r => p (d * M + r)) M) n 0
  | 0 => by rw [Nat.zero_mul]; rfl
  | n + 1 => by rw [Nat.add_mul, Nat.one_mul, cnt_plus, cnt_blk p M n]; rfl
theorem cnt_F (n : Nat) : cnt (fun _ => false) n = 0 := by
  induction n with
  | zero => rfl
  | succ n ih => rw [cnt_s, ih]; simp
theorem vld_cnt (B : Nat → Nat) : ∀ m i prev, cnt (vld B m i prev) (4 ^ m) = cW B m i prev
  | 0, i, prev => rfl
  | m + 1, i, prev => by
    have hM : 0 < 4 ^ m := Nat.pos_of_ne_zero (by simp)
    rw [Nat.pow_succ, Nat.mul_comm, cnt_blk, cW_s]
    refine fd_congr (fun d a hd => ?_) 0
    have e1 : cnt (fun r => vld B (m + 1) i prev (d * 4 ^ m + r)) (4 ^ m) = if unl prev d = true then (if alw B i d = true then cW B m (i + 1) (some d) else 0) else 0 := by
      have e2 : cnt (fun r => vld B (m + 1) i prev (d * 4 ^ m + r)) (4 ^ m) = cnt (fun r => unl prev d && (alw B i d && vld B m (i + 1) (some d) r)) (4 ^ m) := by
        refine cnt_congr (fun r hr => ?_)
        show (unl prev ((d * 4 ^ m + r) / 4 ^ m) && (alw B i ((d * 4 ^ m + r) / 4 ^ m) && vld B m (i + 1) (some ((d * 4 ^ m + r) / 4 ^ m)) ((d * 4 ^ m + r) % 4 ^ m))) = _
        rw [show (d * 4 ^ m + r) / 4 ^ m = d by rw [Nat.mul_comm, Nat.mul_add_div hM, Nat.div_eq_of_lt hr, Nat.add_zero], show (d * 4 ^ m + r) % 4 ^ m = r by rw [Nat.mul_comm, Nat.mul_add_mod, Nat.mod_eq_of_lt hr]]
      rw [e2]
      by_cases h1 : unl prev d = true
      · by_cases h2 : alw B i d = true
        · rw [if_pos h1, if_pos h2, ← vld_cnt B m (i + 1) (some d)]
          exact cnt_congr (fun r hr => by rw [h1, h2]; rfl)
        · rw [if_pos h1, if_neg h2, ← cnt_F (4 ^ m)]
          exact cnt_congr (fun r hr => by rw [show alw B i d = false by simpa using h2]; simp)
      · rw [if_neg h1, ← cnt_F (4 ^ m)]
        exact cnt_congr (fun r hr => by rw [show unl prev d = false by simpa using h1]; rfl)
    rw [e1]
    by_cases h1 : unl prev d = true
    · rw [if_pos h1, if_pos h1]
    · rw [if_neg h1, if_neg h1, Nat.add_zero]
theorem cnt_pos {p : Nat → Bool} {n : Nat} : 0 < cnt p n ↔ ∃ i, i < n ∧ p i = true := by
  induction n with
  | zero => exact ⟨fun h => (by cases h), fun ⟨i, h, _⟩ => by omega⟩
  | succ n ih =>
    rw [cnt_s]
    by_cases h : p n = true
    · rw [if_pos h]
      exact ⟨fun _ => ⟨n, by omega, h⟩, fun _ => by omega⟩
    · rw [if_neg h, ih]
      refine ⟨fun ⟨i, h1, h2⟩ => ⟨i, by omega, h2⟩, fun ⟨i, h1, h2⟩ => ⟨i, ?_, h2⟩⟩
      by_cases h3 : i = n
      · rw [h3] at h2; exact absurd h2 h
      · omega
/-- a code's digits, the first one first -/
def dgt (m c j : Nat) : Nat := c / 4 ^ (m - 1 - j) % 4
/-- the least code that is valid spells the least way -/
theorem vld_least (B : Nat → Nat) : ∀ m i prev c, fnd (vld B (m + 1) i prev) (4 ^ (m + 1)) = some c → ∀ j, j ≤ m → lws B m i prev j = some (dgt (m + 1) c j)
  | m, i, prev, c, h => by
    have hM : 0 < 4 ^ m := Nat.pos_of_ne_zero (by simp)
    obtain ⟨h1, h2, h3⟩ := fnd_some.mp h
    have hp : 4 ^ (m + 1) = 4 * 4 ^ m := by rw [Nat.pow_succ, Nat.mul_comm]
    have hd4 : c / 4 ^ m < 4 := Nat.div_lt_of_lt_mul (by rw [hp, Nat.mul_comm] at h1; exact h1)
    have hr := Nat.mod_lt c hM
    have hc : c = c / 4 ^ m * 4 ^ m + c % 4 ^ m := by rw [Nat.mul_comm]; exact (Nat.div_add_mod c (4 ^ m)).symm
    have split : ∀ d r, d < 4 → r < 4 ^ m → vld B (m + 1) i prev (d * 4 ^ m + r) = (unl prev d && (alw B i d && vld B m (i + 1) (some d) r)) := by
      intro d r hd hr
      show (unl prev ((d * 4 ^ m + r) / 4 ^ m) && (alw B i ((d * 4 ^ m + r) / 4 ^ m) && vld B m (i + 1) (some ((d * 4 ^ m + r) / 4 ^ m)) ((d * 4 ^ m + r) % 4 ^ m))) = _
      rw [show (d * 4 ^ m + r) / 4 ^ m = d by rw [Nat.mul_comm, Nat.mul_add_div hM, Nat.div_eq_of_lt hr, Nat.add_zero], show (d * 4 ^ m + r) % 4 ^ m = r by rw [Nat.mul_comm, Nat.mul_add_mod, Nat.mod_eq_of_lt hr]]
    rw [hc, split _ _ hd4 hr] at h2
    simp only [Bool.and_eq_true] at h2
    obtain ⟨v1, v2, v3⟩ := h2
    -- the first letter
    have l0 : lB B m i prev = some (c / 4 ^ m) := by
      refine fnd_some.mpr ⟨hd4, ?_, fun d hd => ?_⟩
      · simp only [Bool.and_eq_true, decide_eq_true_eq]
        refine ⟨v1, v2, ?_⟩
        rw [← vld_cnt]
        exact cnt_pos.mpr ⟨_, hr, v3⟩
      · cases hb : (unl prev d && (alw B i d && decide (0 < cW B m (i + 1) (some d))))
        · rfl
        · exfalso
          simp only [Bool.and_eq_true, decide_eq_true_eq] at hb
          obtain ⟨w1, w2, w3⟩ := hb
          rw [← vld_cnt] at w3
          obtain ⟨r, r1, r2⟩ := cnt_pos.mp w3
          have lt : d * 4 ^ m + r < c := by
            have h9 : (d + 1) * 4 ^ m ≤ c / 4 ^ m * 4 ^ m := Nat.mul_le_mul_right _ hd
            rw [Nat.add_mul, Nat.one_mul] at h9
            omega
          have := h3 _ lt
          rw [split d r (by omega) r1, w1, w2, r2] at this
          cases this
    intro j hj
    cases j with
    | zero =>
      show lB B m i prev = _
      rw [l0]
      unfold dgt
      rw [show m + 1 - 1 - 0 = m by omega, Nat.mod_eq_of_lt hd4]
    | succ j =>
      cases m with
      | zero => omega
      | succ m =>
        rw [lws_unroll, l0]
        simp only
        have hf : fnd (vld B (m + 1) (i + 1) (some (c / 4 ^ (m + 1)))) (4 ^ (m + 1)) = some (c % 4 ^ (m + 1)) := by
          refine fnd_some.mpr ⟨hr, v3, fun r hr2 => ?_⟩
          cases hb : vld B (m + 1) (i + 1) (some (c / 4 ^ (m + 1))) r
          · rfl
          · exfalso
            have := h3 (c / 4 ^ (m + 1) * 4 ^ (m + 1) + r) (by omega)
            rw [split _ r hd4 (by omega), v1, v2, hb] at this
            cases this
        rw [vld_least B m (i + 1) (some (c / 4 ^ (m + 1))) (c % 4 ^ (m + 1)) hf j (by omega)]
        unfold dgt
        rw [show m + 1 - 1 - j = m - j by omega, show m + 1 + 1 - 1 - (j + 1) = m - j by omega]
        congr 1
        -- (c mod 4^(m+1)) / 4^(m-j) mod 4 = c / 4^(m-j) mod 4
        have e1 : 4 ^ (m + 1) = 4 ^ (m - j) * (4 * 4 ^ j) := by rw [show 4 * 4 ^ j = 4 ^ (j + 1) by rw [Nat.pow_succ, Nat.mul_comm], ← Nat.pow_add, show m - j + (j + 1) = m + 1 by omega]
        rw [e1, Nat.mod_mul_right_div_self, Nat.mod_mul_right_mod]
