/-! RULES -/
theorem uS_uS (σ : St_) (k : Nat) (a b : Int32) : uS (uS σ k a) k b = uS σ k b := by
  unfold uS
  refine congrArg (fun z => (z, σ.2)) ?_
  funext j
  by_cases q : j = k
  · rw [if_pos q, if_pos q]
  · rw [if_neg q, if_neg q]
    exact if_neg q
theorem uS_self (σ : St_) (k : Nat) : uS σ k (sS σ k) = σ := by
  unfold uS
  have : (fun j => if j = k then sS σ k else σ.1 j) = σ.1 := by
    funext j
    by_cases q : j = k
    · rw [if_pos q, q]; rfl
    · rw [if_neg q]
  rw [this]
/-- the class's state while it reads -/
def st_ (x : St_) (D : Nat → Int32) (k : Nat) : St_ := uS (uA x 2 D) 1 (nI k)
theorem st_S (x : St_) (D : Nat → Int32) (k k' : Nat) : uS (st_ x D k) 1 (nI k') = st_ x D k' := uS_uS _ _ _ _
theorem st_M (x : St_) (D : Nat → Int32) (k j : Nat) (v : Int32) : uM (st_ x D k) 2 j v = st_ x (upd D j v) k := by
  show uS (uA (uA x 2 D) 2 (upd (sM (uA x 2 D) 2) j v)) 1 (nI k) = _
  rw [sM_A, uA_uA]
  rfl
theorem st_1 (x : St_) (D : Nat → Int32) (k : Nat) : sS (st_ x D k) 1 = nI k := rfl
def Tp (x m : St_) (n : Nat) (T : Nat → Nat) : Prop := n ≤ 60 ∧ sS x 0 = nI n ∧ ∀ j, j < n → T j < 256 ∧ sM x 0 j = nI (T j) ∧ sM m 0 j = sb_b (T j)
theorem sb_and : ∀ c, c < 256 → sb_b c &&& 255 = nI c := by decide +kernel
theorem atX {x m : St_} {n : Nat} {T : Nat → Nat} (h : Tp x m n T) (D : Nat → Int32) (p k : Nat) (hk : k < 2 ^ 31) : fX3_at (nI k) (st_ x D p) = some (if k < n then nI (T k) else -1) := by
  obtain ⟨hn, h1, h2⟩ := h
  unfold fX3_at
  rw [show sS (st_ x D p) 0 = nI n from h1]
  by_cases q : k < n
  · rw [isBelow_1 q (by omega), bn_s, if_neg one0, gd_s (by omega) (by decide), if_pos q]
    exact congrArg some (h2 k q).2.1
  · rw [isBelow_0 (Or.inr (nI_le (by omega) hk)), if_neg q]
    rfl
theorem atM {x m : St_} {n : Nat} {T : Nat → Nat} (h : Tp x m n T) (D : Nat → Int32) (k : Nat) (hk : k < 2 ^ 31) : fX6_at (nI k) (nI n) (uA m 6 D) = some (if k < n then nI (T k) else 0) := by
  obtain ⟨hn, h1, h2⟩ := h
  unfold fX6_at
  by_cases q : k < n
  · rw [if_neg (nI_ge q (by omega)), gd_s (by omega) (by decide), if_pos q, show sM (uA m 6 D) 0 = sM m 0 from rfl, (h2 k q).2.2, sb_and _ (h2 k q).1]
  · rw [if_pos (nI_le (by omega) hk), if_neg q]
/-- a digit lies there -/
def dg (n : Nat) (T : Nat → Nat) (k : Nat) : Bool := decide (k < n ∧ 48 ≤ T k ∧ T k ≤ 57)
theorem digX {x m : St_} {n : Nat} {T : Nat → Nat} (h : Tp x m n T) (D : Nat → Int32) (p k : Nat) (hk : k < 2 ^ 31) : fX3_hasDigitAt (nI k) (st_ x D p) = some (nI (n1 (dg n T k))) := by
  unfold fX3_hasDigitAt dg
  rw [atX h D p k hk, bn_s, bn_s]
  by_cases q : k < n
  · have ht := (h.2.2 k q).1
    rw [if_pos q, show (48 : Int32) = nI 48 from rfl, show (57 : Int32) = nI 57 from rfl]
    by_cases q1 : T k < 48
    · rw [if_pos (nI_lt q1 (by decide)), decide_eq_false (by omega)]
      rfl
    · rw [if_neg (nI_nlt (by omega) (by omega))]
      by_cases q2 : 57 < T k
      · rw [if_pos (nI_lt q2 (by omega)), decide_eq_false (by omega)]
        rfl
      · rw [if_neg (nI_nlt (by omega) (by decide)), decide_eq_true (by omega)]
        rfl
  · rw [if_neg q, if_pos (by decide), decide_eq_false (by omega)]
    rfl
theorem digM {x m : St_} {n : Nat} {T : Nat → Nat} {α : Type} (h : Tp x m n T) (D : Nat → Int32) (k : Nat) (hk : k < 2 ^ 31) (K : Int32 → Option α) : bn_ (fX6_at (nI k) (nI n) (uA m 6 D)) (fun r => bn_ (fX6_lies r 48 57) K) = K (nI (n1 (dg n T k))) := by
  unfold dg
  rw [atM h D k hk, bn_s]
  unfold fX6_lies
  by_cases q : k < n
  · have ht := (h.2.2 k q).1
    rw [if_pos q, show (48 : Int32) = nI 48 from rfl, show (57 : Int32) = nI 57 from rfl]
    by_cases q1 : T k < 48
    · rw [if_pos (nI_lt q1 (by decide)), decide_eq_false (by omega)]
      rfl
    · rw [if_neg (nI_nlt (by omega) (by omega))]
      by_cases q2 : 57 < T k
      · rw [if_pos (nI_lt q2 (by omega)), decide_eq_false (by omega)]
        rfl
      · rw [if_neg (nI_nlt (by omega) (by decide)), decide_eq_true (by omega)]
        rfl
  · rw [if_neg q, if_pos (by decide), decide_eq_false (by omega)]
    rfl
theorem let_b : ∀ b, b < 256 → fX2_kindOf (nI b) = fX6_letter (nI b) := by decide +kernel
theorem let_c : ∀ b, b < 256 → fX6_letter (nI b) ∈ [some (-1), some (nI 0), some (nI 1), some (nI 2), some (nI 3), some (nI 4), some (nI 5)] := by decide +kernel
theorem let_d {b : Nat} (hb : b < 256) : fX6_letter (nI b) = some (-1) ∨ ∃ c : Nat, c < 6 ∧ fX6_letter (nI b) = some (nI c) := by
  have := let_c b hb
  simp only [List.mem_cons, List.mem_nil_iff, or_false] at this
  rcases this with q | q | q | q | q | q | q
  · exact Or.inl q
  · exact Or.inr ⟨0, by decide, q⟩
  · exact Or.inr ⟨1, by decide, q⟩
  · exact Or.inr ⟨2, by decide, q⟩
  · exact Or.inr ⟨3, by decide, q⟩
  · exact Or.inr ⟨4, by decide, q⟩
  · exact Or.inr ⟨5, by decide, q⟩
theorem digits {x m : St_} {n : Nat} {T : Nat → Nat} (h : Tp x m n T) (D D' : Nat → Int32) (p : Nat) (k11 : Int32 → Int32 → Int32 → St_ → Option (Int32 × St_)) (x3 x4 : Int32) : ∀ d i val f g, i + d = 4 → p + i ≤ n → val < 10 ^ i → d < f → d < g → ∃ i' val', p + i' ≤ n ∧ val' < 10000 ∧ fX2_readDigits_4 f (nI val) (nI i) (st_ x D (p + i)) = some (nI val', st_ x D (p + i')) ∧ fX6_reads_69 k11 g (nI n) (nI (p + i)) x3 x4 (nI p) (nI val) (uA m 6 D') = (if dg n T (p + i') = true then fX6_reads_93 (nI (p + i')) (uA m 6 D') else fX6_reads_122 k11 (nI n) (nI (p + i')) x3 x4 (nI p) (nI val') (uA m 6 D'))
  | d, i, val, 0, _, _, _, _, hf, _ => absurd hf (Nat.not_lt_zero d)
  | d, i, val, _, 0, _, _, _, _, hg => absurd hg (Nat.not_lt_zero d)
  | 0, i, val, f + 1, g + 1, hi, hp, hv, _, _ => by
    have hn := h.1
    have e4 : i = 4 := by omega
    subst e4
    refine ⟨4, val, hp, hv, ?_, ?_⟩
    · exact if_pos (by decide)
    · show (bn_ (fX6_at (nI (p + 4)) (nI n) (uA m 6 D')) fun r9 => (bn_ (fX6_lies r9 48 57) fun r10 => (if r10 = 0 then fX6_reads_122 (k11) (nI n) (nI (p + 4)) x3 x4 (nI p) (nI val) (uA m 6 D') else (if nI (p + 4) = (nI p + 4) then fX6_reads_93  (nI (p + 4)) (uA m 6 D') else (bn_ (fX6_at (nI (p + 4)) (nI n) (uA m 6 D')) fun r11 => fX6_reads_69 k11 g (nI n) (nI (p + 4) + 1) x3 x4 (nI p) (((10 * nI val) + r11) - 48) (uA m 6 D')))))) = _
      rw [digM h D' (p + 4) (by omega), ite_n, if_pos (show nI (p + 4) = nI p + 4 from (nI_add p 4).symm)]
  | d + 1, i, val, f + 1, g + 1, hi, hp, hv, hf, hg => by
    have hn := h.1
    have hle : 10 ^ i ≤ 10 ^ 4 := Nat.pow_le_pow_right (by decide) (by omega)
    have eX : fX2_readDigits_4 (f + 1) (nI val) (nI i) (st_ x D (p + i)) = (if 4 ≤ nI i then some (nI val, st_ x D (p + i)) else (bn_ (fX3_hasDigitAt (sS (st_ x D (p + i)) 1) (st_ x D (p + i))) fun r1 => (if r1 = 0 then some (nI val, st_ x D (p + i)) else (bn_ (fX3_at (sS (st_ x D (p + i)) 1) (st_ x D (p + i))) fun r2 => fX2_readDigits_4  f (((nI val * 10) + r2) - 48) (nI i + 1) (uS (st_ x D (p + i)) 1 ((sS (st_ x D (p + i)) 1) + 1)))))) := rfl
    have eM : fX6_reads_69 k11 (g + 1) (nI n) (nI (p + i)) x3 x4 (nI p) (nI val) (uA m 6 D') = (bn_ (fX6_at (nI (p + i)) (nI n) (uA m 6 D')) fun r9 => (bn_ (fX6_lies r9 48 57) fun r10 => (if r10 = 0 then fX6_reads_122 (k11) (nI n) (nI (p + i)) x3 x4 (nI p) (nI val) (uA m 6 D') else (if nI (p + i) = (nI p + 4) then fX6_reads_93  (nI (p + i)) (uA m 6 D') else (bn_ (fX6_at (nI (p + i)) (nI n) (uA m 6 D')) fun r11 => fX6_reads_69 k11 g (nI n) (nI (p + i) + 1) x3 x4 (nI p) (((10 * nI val) + r11) - 48) (uA m 6 D')))))) := rfl
    rw [st_1, if_neg (nle_4 (by omega)), digX h D (p + i) (p + i) (by omega), bn_s, ite_n, atX h D (p + i) (p + i) (by omega), bn_s, nI_1, nI_1, st_S] at eX
    rw [digM h D' (p + i) (by omega), ite_n, show nI p + 4 = nI (p + 4) from nI_add p 4, if_neg (show ¬ nI (p + i) = nI (p + 4) from fun z => by rw [nI_eq (by omega) (by omega)] at z; omega), atM h D' (p + i) (by omega), bn_s, nI_1] at eM
    by_cases q : dg n T (p + i) = true
    · have hq := of_decide_eq_true q
      have ex : nI val * 10 + nI (T (p + i)) - 48 = nI (val * 10 + (T (p + i) - 48)) := by
        rw [show (10 : Int32) = nI 10 from rfl, show (48 : Int32) = nI 48 from rfl, pk_mul, nI_add, pk_sub (by omega)]
        congr 1
        omega
      have em : 10 * nI val + nI (T (p + i)) - 48 = nI (val * 10 + (T (p + i) - 48)) := by
        rw [show (10 : Int32) = nI 10 from rfl, show (48 : Int32) = nI 48 from rfl, pk_mul, nI_add, pk_sub (by omega)]
        congr 1
        omega
      rw [if_pos q, if_pos hq.1, ex] at eX
      rw [if_pos q, if_pos hq.1, em] at eM
      rw [eX, eM]
      exact digits h D D' p k11 x3 x4 d (i + 1) _ f g (by omega) (by omega) (by rw [Nat.pow_succ]; omega) (by omega) (by omega)
    · rw [if_neg q] at eX
      rw [if_neg q] at eM
      refine ⟨i, val, hp, by omega, eX, ?_⟩
      rw [if_neg q]
      exact eM
