/-! THE TIE between the class's state x and the reference's state m -/
def bt (x : Int32) (i : Nat) : Bool := x.toBitVec.getLsbD i
/-- a boolean of the reference -/
def tt (x : Int32) : Bool := decide (x ≠ 0)
def b01 (x : Int32) : Prop := x = 0 ∨ x = 1
/-- v visits f this year, by the reference -/
def vis (m : St_) (v f : Nat) : Bool := tt (sS m 4) && tt (sM m 17 (10 * v + f))
def Inv_ (x m : St_) : Prop :=
  (sN x ≤ 10 ∧ sS x 5 = nI (sN x) ∧ sS m 2 = nI (sN x)) ∧
  (∃ y : Nat, y ≤ 500 ∧ sS x 6 = nI y ∧ sS m 3 = nI y) ∧
  (b01 (sS m 4) ∧ sS x 2 = sS m 4) ∧
  (∃ t : Nat, t ≤ 60 ∧ sS x 0 = nI t ∧ sS m 1 = nI t ∧ ∀ j, j < t → ∃ b : Nat, b < 256 ∧ sM x 0 j = nI b ∧ sM m 0 j = sb_b b) ∧
  ((∀ j, j < 6 → sM x 1 j = sM m 5 j) ∧ ∃ N V : Nat, N ≤ 5 ∧ V ≤ 9 ∧ sM m 5 0 = nI N ∧ sM m 5 1 = nI V) ∧
  (∀ i, i < sN x → (sF x i 0 = sM m 7 i ∧ sF x i 1 = sM m 8 i ∧ sF x i 2 = sM m 10 i ∧ sF x i 3 = sM m 11 i ∧ sF x i 4 = sM m 12 i ∧ sF x i 5 = sM m 13 i ∧ sF x i 6 = sM m 15 i ∧ sF x i 7 = sM m 14 i) ∧ b01 (sM m 10 i) ∧ ∃ z : Nat, z ≤ 2 ∧ sM m 11 i = nI z) ∧
  (∀ i, sN x ≤ i → i < 10 → sM m 10 i = 0 ∧ sM m 11 i = 0 ∧ sM m 12 i = 0 ∧ sM m 13 i = 0 ∧ sM m 14 i = 0 ∧ sM m 15 i = 0) ∧
  (∀ a b, a < 10 → b < 10 → b01 (sM m 16 (10 * a + b)) ∧ bt (sM x 10 a) b = tt (sM m 16 (10 * a + b))) ∧
  (∀ p, p < 8 → sM x 11 p = sM m 9 p) ∧
  (∀ f, f < 10 → (∀ i, 10 ≤ i → bt (sM x 3 f) i = false) ∧ ∀ v, v < 10 → bt (sM x 3 f) v = vis m v f) ∧
  (∀ v f, v < 10 → f < 10 → b01 (sM m 17 (10 * v + f)) ∧ (vis m v f = true → v < sN x ∧ f < sN x)) ∧
  (∀ v f, v < 10 → f < 10 → b01 (sM m 18 (10 * v + f)) ∧ bt (sM x 4 f) v = tt (sM m 18 (10 * v + f))) ∧
  (∀ v f, v < 10 → f < 10 → sM x (12 + f) v = (if vis m v f = true then sM m 19 (10 * v + f) else 0) ∧ (vis m v f = true → ∃ b : Nat, b < 256 ∧ sM m 19 (10 * v + f) = nI b))
