/-! the lowest bit -/
theorem odd_part : ∀ k, k ≠ 0 → ∃ w j, k = 2 ^ (w + 1) * j + 2 ^ w := by
  intro k
  induction k using Nat.strongRecOn with
  | ind k ih =>
    intro h0
    by_cases h : k % 2 = 1
    · exact ⟨0, k / 2, by omega⟩
    · obtain ⟨w, j, e⟩ := ih (k / 2) (by omega) (by omega)
      refine ⟨w + 1, j, ?_⟩
      rw [Nat.pow_succ 2 (w + 1), Nat.pow_succ 2 w] at *
      have : k = 2 * (k / 2) := by omega
      rw [this, e, Nat.mul_add, Nat.mul_comm 2 (2 ^ w)]
      congr 1
      simp only [Nat.mul_comm, Nat.mul_assoc, Nat.mul_left_comm]
theorem tb_n (x : Int32) (i : Nat) : bt x i = x.toBitVec.toNat.testBit i := rfl
theorem low_parts {x : Int32} (h0 : x ≠ 0) : ∃ w, w < 32 ∧ bt x w = true ∧ (∀ i, i < w → bt x i = false) ∧ ∀ i, i < 32 → bt (x - 1) i = if i < w then true else if i = w then false else bt x i := by
  have hk : x.toBitVec.toNat ≠ 0 := fun e => h0 (Int32.toBitVec_inj.mp (BitVec.eq_of_toNat_eq e))
  have hl : x.toBitVec.toNat < 2 ^ 32 := x.toBitVec.isLt
  obtain ⟨w, j, e⟩ := odd_part _ hk
  have hw : w < 32 := by
    rcases Nat.lt_or_ge w 32 with q | q
    · exact q
    · have h1 : 2 ^ 32 ≤ 2 ^ w := Nat.pow_le_pow_right (by decide) q
      omega
  have p1 : 2 ^ w < 2 ^ (w + 1) := by rw [Nat.pow_succ]; have := Nat.two_pow_pos w; omega
  have b1 : ∀ i, bt x i = if i < w + 1 then decide (w = i) else j.testBit (i - (w + 1)) := by
    intro i
    rw [tb_n, e, Nat.testBit_two_pow_mul_add _ p1]
    congr 1
    exact Nat.testBit_two_pow
  have e2 : (x - 1).toBitVec.toNat = 2 ^ (w + 1) * j + (2 ^ w - 1) := by
    have : (x - 1).toBitVec = x.toBitVec - 1#32 := rfl
    rw [this, BitVec.toNat_sub]
    have hp := Nat.two_pow_pos w
    show (2 ^ 32 - 1 + x.toBitVec.toNat) % 2 ^ 32 = _
    omega
  have p2 : 2 ^ w - 1 < 2 ^ (w + 1) := by omega
  have b2 : ∀ i, bt (x - 1) i = if i < w + 1 then decide (i < w) else j.testBit (i - (w + 1)) := by
    intro i
    rw [tb_n, e2, Nat.testBit_two_pow_mul_add _ p2]
    congr 1
    exact Nat.testBit_two_pow_sub_one w i
  refine ⟨w, hw, ?_, ?_, ?_⟩
  · rw [b1, if_pos (by omega), decide_eq_true rfl]
  · intro i hi
    rw [b1, if_pos (by omega), decide_eq_false (by omega)]
  · intro i _
    rw [b2, b1]
    by_cases q1 : i < w
    · rw [if_pos (by omega), if_pos q1, decide_eq_true q1]
    · rw [if_neg q1]
      by_cases q2 : i = w
      · rw [if_pos (by omega), if_pos q2, decide_eq_false q1]
      · rw [if_neg q2, if_neg (by omega), if_neg (by omega)]
theorem b_neg (x : Int32) {i : Nat} (hi : i < 32) : bt (-x) i = !bt (x - 1) i := by
  have e : (-x).toBitVec = ~~~ (x - 1).toBitVec := by
    show -x.toBitVec = ~~~ (x.toBitVec - 1#32)
    rw [← BitVec.not_neg, BitVec.not_not]
  unfold bt
  rw [e, BitVec.getLsbD_not]
  simp [hi]
theorem bc_low : ∀ w, w < 22 → fJ6_bitCount_0f7a4 (nI (2 ^ w - 1)) = some (nI w) := by decide +kernel
theorem b_low (w : Nat) (hw : w < 22) : ∀ i, i < 32 → bt (nI (2 ^ w - 1)) i = decide (i < w) := by
  have h : ∀ w, w < 22 → ∀ i, i < 32 → bt (nI (2 ^ w - 1)) i = decide (i < w) := by decide +kernel
  exact h w hw
theorem b_pow (w : Nat) (hw : w < 22) : ∀ i, i < 32 → bt (nI (2 ^ w)) i = decide (i = w) := by
  have h : ∀ w, w < 22 → ∀ i, i < 32 → bt (nI (2 ^ w)) i = decide (i = w) := by decide +kernel
  exact h w hw
theorem lowest_s {x : Int32} (h0 : x ≠ 0) (h22 : ∀ i, 22 ≤ i → bt x i = false) : ∃ w, w < 22 ∧ bt x w = true ∧ fX1_lowestBit x = some (nI w) ∧ ∀ i, i < 32 → bt (x &&& (x - 1)) i = (bt x i && !decide (i = w)) := by
  obtain ⟨w, hw, h1, h2, h3⟩ := low_parts h0
  have hw22 : w < 22 := by
    rcases Nat.lt_or_ge w 22 with q | q
    · exact q
    · rw [h22 w q] at h1
      cases h1
  refine ⟨w, hw22, h1, ?_, ?_⟩
  · have e1 : x &&& (-x) = nI (2 ^ w) := by
      apply b_ext
      intro i hi
      rw [b_and, b_neg x hi, h3 i hi, b_pow w hw22 i hi]
      by_cases q1 : i < w
      · rw [if_pos q1, h2 i q1, decide_eq_false (by omega)]
        rfl
      · rw [if_neg q1]
        by_cases q2 : i = w
        · rw [if_pos q2, q2, h1, decide_eq_true rfl]
          rfl
        · rw [if_neg q2, decide_eq_false q2]
          cases bt x i <;> rfl
    unfold fX1_lowestBit
    rw [e1, show nI (2 ^ w) - 1 = nI (2 ^ w - 1) from pk_sub (b := 1) (Nat.two_pow_pos w), bc_low w hw22]
    rfl
  · intro i hi
    rw [b_and, h3 i hi]
    by_cases q1 : i < w
    · rw [if_pos q1, h2 i q1, Bool.false_and, Bool.false_and]
    · rw [if_neg q1]
      by_cases q2 : i = w
      · rw [if_pos q2, decide_eq_true q2]
        rfl
      · rw [if_neg q2, decide_eq_false q2]
        cases bt x i <;> rfl
