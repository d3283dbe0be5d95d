/-! plain tools: bits, indices, the pure functions of the leaves -/
theorem b_ext {x y : Int32} (h : ∀ i, i < 32 → bt x i = bt y i) : x = y := Int32.toBitVec_inj.mp (BitVec.eq_of_getLsbD_eq (fun i hi => h i hi))
theorem b_or (x y : Int32) (i : Nat) : bt (x ||| y) i = (bt x i || bt y i) := by unfold bt; rw [Int32.toBitVec_or, BitVec.getLsbD_or]
theorem b_and (x y : Int32) (i : Nat) : bt (x &&& y) i = (bt x i && bt y i) := by unfold bt; rw [Int32.toBitVec_and, BitVec.getLsbD_and]
theorem b_xor (x y : Int32) (i : Nat) : bt (x ^^^ y) i = (bt x i ^^ bt y i) := by unfold bt; rw [Int32.toBitVec_xor, BitVec.getLsbD_xor]
theorem b_big {x : Int32} {i : Nat} (h : 32 ≤ i) : bt x i = false := BitVec.getLsbD_of_ge _ _ h
theorem b_m1 : ∀ i, i < 32 → bt (-1) i = true := by decide +kernel
theorem b_0 (i : Nat) : bt 0 i = false := BitVec.getLsbD_zero
theorem s_l : ∀ n, n < 32 → ((nI n &&& 31).toBitVec.smod 32).toNat = n := by decide +kernel
theorem b_sshr (n : Nat) (hn : n < 32) (x : Int32) {i : Nat} (hi : i < 32) : bt (x >>> (nI n &&& 31)) i = if n + i < 32 then bt x (n + i) else bt x 31 := by
  unfold bt
  rw [Int32.toBitVec_shiftRight]
  show (x.toBitVec.sshiftRight ((nI n &&& 31).toBitVec.smod 32).toNat).getLsbD i = _
  rw [s_l n hn, BitVec.getLsbD_sshiftRight, BitVec.msb_eq_getLsbD_last]
  simp [hi]
theorem b_one (n : Nat) (hn : n < 32) {i : Nat} (hi : i < 32) : bt ((1 : Int32) <<< (nI n &&& 31)) i = decide (i = n) := by
  have h : ∀ n, n < 32 → ∀ i, i < 32 → bt ((1 : Int32) <<< (nI n &&& 31)) i = decide (i = n) := by decide +kernel
  exact h n hn i hi
theorem b_1 : ∀ i, i < 32 → bt 1 i = decide (i = 0) := by decide +kernel
theorem b_not (n : Nat) (hn : n < 32) (x : Int32) {i : Nat} (hi : i < 32) : bt (x &&& (((1 : Int32) <<< (nI n &&& 31)) ^^^ (-1))) i = (bt x i && !decide (i = n)) := by
  rw [b_and, b_xor, b_one n hn hi, b_m1 i hi]
  cases bt x i <;> cases decide (i = n) <;> rfl
/-- one bit, as a number -/
def n1 (b : Bool) : Nat := if b then 1 else 0
theorem b_get (x : Int32) {v : Nat} (hv : v < 32) : ((x >>> (nI v &&& 31)) &&& 1) = nI (n1 (bt x v)) := by
  apply b_ext
  intro i hi
  rw [b_and, b_sshr v hv x hi, b_1 i hi]
  by_cases h0 : i = 0
  · subst h0
    rw [Nat.add_zero, if_pos hv]
    unfold n1
    cases bt x v
    · rw [if_neg (by decide)]
      rfl
    · rw [if_pos rfl]
      rfl
  · have h1 : decide (i = 0) = false := decide_eq_false h0
    rw [h1, Bool.and_false]
    unfold n1
    cases bt x v
    · rw [if_neg (by decide)]
      exact (b_0 i).symm
    · rw [if_pos rfl, show nI 1 = 1 from rfl, b_1 i hi, h1]
theorem n1_le (b : Bool) : n1 b ≤ 1 := by cases b <;> decide
theorem b_eq0 (x : Int32) {v : Nat} (hv : v < 32) : ((x >>> (nI v &&& 31)) &&& 1) = 0 ↔ bt x v = false := by
  rw [b_get x hv]
  cases bt x v
  · exact ⟨fun _ => rfl, fun _ => rfl⟩
  · exact ⟨fun h => absurd h (by decide), fun h => by cases h⟩
theorem hasBit_s (x : Int32) {v : Nat} (hv : v < 32) : fX5_hasBit x (nI v) = some (nI (n1 (bt x v))) := by
  unfold fX5_hasBit
  by_cases h : ((x >>> (nI v &&& 31)) &&& 1) = 0
  · rw [if_pos h, (b_eq0 x hv).mp h]
    rfl
  · rw [if_neg h]
    have hb : bt x v = true := by
      cases hb : bt x v
      · exact absurd ((b_eq0 x hv).mpr hb) h
      · rfl
    rw [hb]
    rfl
theorem gz_n1 {α : Type} (b : Bool) (K : Option α) : gz_ (nI (n1 b)) K = K := by
  unfold gz_
  cases b
  · exact if_pos (Or.inl rfl)
  · exact if_pos (Or.inr rfl)
theorem gz_ok {α : Type} {x : Int32} (h : b01 x) (K : Option α) : gz_ x K = K := if_pos h
theorem gd_s {α : Type} {j len : Nat} (hj : j < len) (hl : len < 2 ^ 31) (K : Nat → Option α) : gd_ (nI j) len K = K j := by
  unfold gd_
  rw [if_neg (vp_in_nI hj hl), nI_clamp (by omega)]
theorem bn_s {α β : Type} (a : α) (K : α → Option β) : bn_ (some a) K = K a := rfl
theorem isBelow_1 {j N : Nat} (h : j < N) (hN : N < 2 ^ 31) : fX5_isBelow (nI j) (nI N) = some 1 := by
  unfold fX5_isBelow
  rw [if_neg (nI_pos (by omega)), if_neg (nI_ge h hN)]
theorem isBelow_0 {x : Int32} {N : Nat} (h : x < 0 ∨ nI N ≤ x) : fX5_isBelow x (nI N) = some 0 := by
  unfold fX5_isBelow
  by_cases h0 : x < 0
  · rw [if_pos h0]
  · rw [if_neg h0, if_pos (h.resolve_left h0)]
theorem lies_1 {j a b : Nat} (h1 : a ≤ j) (h2 : j ≤ b) (hb : b < 2 ^ 31) : fX6_lies (nI j) (nI a) (nI b) = some 1 := by
  unfold fX6_lies
  rw [if_neg (nI_nlt h1 (by omega)), if_neg (nI_nlt h2 hb)]
theorem lies_0 {x : Int32} {N : Nat} (hN : N < 2 ^ 30) (h : x < 0 ∨ nI N ≤ x) : fX6_lies x 0 (nI N - 1) = some 0 := by
  unfold fX6_lies
  by_cases h0 : x < 0
  · rw [if_pos h0]
  · rw [if_neg h0]
    have h1 := h.resolve_left h0
    rw [if_pos]
    rw [Int32.lt_iff_toInt_lt]
    rw [Int32.le_iff_toInt_le, nI_toInt (by omega)] at h1
    have h2 : (nI N - nI 1).toInt = (N : Int) - 1 := pk_sub_toInt (by omega) (by decide)
    show (nI N - nI 1).toInt < _
    rw [h2]
    omega
/-- an index among the farms, or refused by both -/
theorem F_ix {x m : St_} (h : Inv_ x m) (a : Int32) : (∃ j, j < sN x ∧ a = nI j) ∨ (fX5_isFarm a x = some 0 ∧ fX6_isFarm a m = some 0) := by
  obtain ⟨⟨h1, h2, h3⟩, -⟩ := h
  rcases pk_ix a (n := sN x) (by omega) with q | q | q
  · refine Or.inr ⟨?_, ?_⟩
    · unfold fX5_isFarm
      rw [h2, isBelow_0 (Or.inl q)]
      rfl
    · unfold fX6_isFarm
      rw [h3, lies_0 (by omega) (Or.inl q)]
      rfl
  · refine Or.inr ⟨?_, ?_⟩
    · unfold fX5_isFarm
      rw [h2, isBelow_0 (Or.inr q)]
      rfl
    · unfold fX6_isFarm
      rw [h3, lies_0 (by omega) (Or.inr q)]
      rfl
  · exact Or.inl q
theorem F_in {x m : St_} (h : Inv_ x m) {j : Nat} (hj : j < sN x) : fX5_isFarm (nI j) x = some 1 ∧ fX6_isFarm (nI j) m = some 1 := by
  obtain ⟨⟨h1, h2, h3⟩, -⟩ := h
  refine ⟨?_, ?_⟩
  · unfold fX5_isFarm
    rw [h2, isBelow_1 hj (by omega)]
    rfl
  · unfold fX6_isFarm
    have e : nI (sN x) - 1 = nI (sN x - 1) := pk_sub (a := sN x) (b := 1) (by omega)
    rw [h3, e, show (0 : Int32) = nI 0 from rfl, lies_1 (Nat.zero_le _) (by omega) (by omega)]
    rfl
theorem F_at {x m : St_} (h : Inv_ x m) {j : Nat} (hj : j < sN x) : fX5_farmAt (nI j) x = some (some j) := by
  unfold fX5_farmAt
  rw [(F_in h hj).1]
  have h1 := h.1.1
  rw [bn_s, if_neg (by decide), gd_s (by omega) (by omega), if_pos hj]
theorem F_no {x : St_} {a : Int32} (h : fX5_isFarm a x = some 0) : fX5_farmAt a x = some none := by
  unfold fX5_farmAt
  rw [h]
  rfl
theorem ix_10 (v f : Nat) : 10 * nI v + nI f = nI (10 * v + f) := by
  show nI 10 * nI v + nI f = _
  rw [pk_mul, nI_add]
theorem oneIf_s (b : Bool) : fX5_oneIf (nI (n1 b)) = some (nI (n1 b)) := by cases b <;> rfl
theorem tt_b01 {x : Int32} (h : b01 x) : x = nI (n1 (tt x)) := by rcases h with rfl | rfl <;> rfl
theorem tt_0 {x : Int32} : x = 0 ↔ tt x = false := by
  unfold tt
  by_cases h : x = 0 <;> simp [h]
theorem isVisit_s {x m : St_} (h : Inv_ x m) {v f : Nat} (hv : v < 10) (hf : f < 10) : fX6_isVisit (nI v) (nI f) m = some (nI (n1 (vis m v f))) := by
  unfold fX6_isVisit vis
  by_cases h4 : sS m 4 = 0
  · rw [if_pos h4, (tt_0.mp h4)]
    rfl
  · have h4t : tt (sS m 4) = true := by
      cases ht : tt (sS m 4)
      · exact absurd (tt_0.mpr ht) h4
      · rfl
    rw [if_neg h4, ix_10, gd_s (by omega) (by decide), h4t, Bool.true_and]
    by_cases h5 : sM m 17 (10 * v + f) = 0
    · rw [if_pos h5, tt_0.mp h5]
      rfl
    · have h5t : tt (sM m 17 (10 * v + f)) = true := by
        cases ht : tt (sM m 17 (10 * v + f))
        · exact absurd (tt_0.mpr ht) h5
        · rfl
      rw [if_neg h5, h5t]
      rfl
theorem isVisitor_s {x m : St_} (h : Inv_ x m) {v f : Nat} (hv : v < 10) (hf : f < 10) : fX4_isVisitor (nI v) (nI f) x = some (nI (n1 (vis m v f))) := by
  obtain ⟨-, -, -, -, -, -, -, -, -, h3, -⟩ := h
  unfold fX4_isVisitor
  rw [gd_s hf (by decide), hasBit_s _ (by omega), bn_s, gz_n1, (h3 f hf).2 v hv]
/-- a sum of bits -/
def cn (g : Nat → Bool) : Nat → Nat
  | 0 => 0
  | k + 1 => cn g k + n1 (g k)
theorem cn_le (g : Nat → Bool) : ∀ k, cn g k ≤ k
  | 0 => Nat.le_refl 0
  | k + 1 => by
    have := cn_le g k
    have := n1_le (g k)
    show cn g k + n1 (g k) ≤ k + 1
    omega
theorem cn_congr {g g' : Nat → Bool} : ∀ k, (∀ i, i < k → g i = g' i) → cn g k = cn g' k
  | 0, _ => rfl
  | k + 1, h => by
    show cn g k + n1 (g k) = cn g' k + n1 (g' k)
    rw [cn_congr k (fun i hi => h i (by omega)), h k (by omega)]
/-- bits that are 0 from a place on add nothing -/
theorem cn_ext {g : Nat → Bool} {a : Nat} : ∀ b, a ≤ b → (∀ i, a ≤ i → i < b → g i = false) → cn g b = cn g a
  | 0, h, _ => by
    have : a = 0 := by omega
    subst this
    rfl
  | b + 1, h, hz => by
    rcases Nat.lt_or_ge b a with q | q
    · have : a = b + 1 := by omega
      subst this
      rfl
    · show cn g b + n1 (g b) = cn g a
      rw [cn_ext b q (fun i h1 h2 => hz i h1 (by omega)), hz b q (by omega)]
      rfl
def popc (k : Nat) : Nat := cn (fun i => k.testBit i) 10
theorem bc_all : ∀ k, k < 1024 → fJ6_bitCount_0f7a4 (nI k) = some (nI (popc k)) := by decide +kernel
theorem mask10 {x : Int32} (h : ∀ i, 10 ≤ i → bt x i = false) : ∃ k, k < 1024 ∧ x = nI k ∧ ∀ i, bt x i = k.testBit i := by
  refine ⟨x.toBitVec.toNat, ?_, ?_, fun i => rfl⟩
  · exact Nat.lt_pow_two_of_testBit (n := 10) _ (fun i hi => h i hi)
  · apply Int32.toBitVec_inj.mp
    show x.toBitVec = BitVec.ofNat 32 x.toBitVec.toNat
    simp
theorem bitCount_s {x : Int32} (h : ∀ i, 10 ≤ i → bt x i = false) : fJ6_bitCount_0f7a4 x = some (nI (cn (fun i => bt x i) 10)) := by
  obtain ⟨k, hk, e, hb⟩ := mask10 h
  have : cn (fun i => bt x i) 10 = popc k := cn_congr 10 (fun i _ => hb i)
  rw [this, e]
  exact bc_all k hk
theorem le_1 {v : Nat} (h : 1 ≤ v) (hv : v < 2 ^ 31) : (1 : Int32) ≤ nI v := nI_le (a := 1) h hv
theorem nle_1 {v : Nat} (h : v < 1) : ¬ (1 : Int32) ≤ nI v := nI_ge (b := 1) h (by decide)
theorem le_4 {v : Nat} (h : 4 ≤ v) (hv : v < 2 ^ 31) : (4 : Int32) ≤ nI v := nI_le (a := 4) h hv
theorem nle_4 {v : Nat} (h : v < 4) : ¬ (4 : Int32) ≤ nI v := nI_ge (b := 4) h (by decide)
theorem le_6 {v : Nat} (h : 6 ≤ v) (hv : v < 2 ^ 31) : (6 : Int32) ≤ nI v := nI_le (a := 6) h hv
theorem nle_6 {v : Nat} (h : v < 6) : ¬ (6 : Int32) ≤ nI v := nI_ge (b := 6) h (by decide)
theorem le_8 {v : Nat} (h : 8 ≤ v) (hv : v < 2 ^ 31) : (8 : Int32) ≤ nI v := nI_le (a := 8) h hv
theorem nle_8 {v : Nat} (h : v < 8) : ¬ (8 : Int32) ≤ nI v := nI_ge (b := 8) h (by decide)
theorem le_10 {v : Nat} (h : 10 ≤ v) (hv : v < 2 ^ 31) : (10 : Int32) ≤ nI v := nI_le (a := 10) h hv
theorem nle_10 {v : Nat} (h : v < 10) : ¬ (10 : Int32) ≤ nI v := nI_ge (b := 10) h (by decide)
theorem le_22 {v : Nat} (h : 22 ≤ v) (hv : v < 2 ^ 31) : (22 : Int32) ≤ nI v := nI_le (a := 22) h hv
theorem nle_22 {v : Nat} (h : v < 22) : ¬ (22 : Int32) ≤ nI v := nI_ge (b := 22) h (by decide)
theorem le_100 {v : Nat} (h : 100 ≤ v) (hv : v < 2 ^ 31) : (100 : Int32) ≤ nI v := nI_le (a := 100) h hv
theorem nle_100 {v : Nat} (h : v < 100) : ¬ (100 : Int32) ≤ nI v := nI_ge (b := 100) h (by decide)
theorem ite_f {α : Type} (a b : α) : (if nI (n1 false) = 0 then a else b) = a := if_pos rfl
theorem ite_t {α : Type} (a b : α) : (if nI (n1 true) = 0 then a else b) = b := if_neg (by decide)
theorem ite_n {α : Type} (c : Bool) (a b : α) : (if nI (n1 c) = 0 then a else b) = (if c = true then b else a) := by
  cases c
  · rw [ite_f, if_neg (by decide)]
  · rw [ite_t, if_pos rfl]
