/-! breaches, what they weigh, who vouches, groups -/
/-- v told p of f, as the reference has it -/
def br (m : St_) (f p v : Nat) : Bool := vis m v f && bt (sM m 19 (10 * v + f)) p
theorem told_bt {x m : St_} (h : Inv_ x m) {v f : Nat} (hv : v < 10) (hf : f < 10) (p : Nat) : bt (sM x (12 + f) v) p = br m f p v := by
  have hT := (h.2.2.2.2.2.2.2.2.2.2.2.2 v f hv hf).1
  rw [hT]
  unfold br
  cases vis m v f
  · rw [if_neg (by decide), Bool.false_and, b_0]
  · rw [if_pos rfl, Bool.true_and]
theorem nI_bt {b : Nat} (hb : b < 256) {p : Nat} (hp : 8 ≤ p) : bt (nI b) p = false := by
  rcases Nat.lt_or_ge p 32 with q | q
  · have h : ∀ b, b < 256 → ∀ p, p < 32 → 8 ≤ p → bt (nI b) p = false := by decide +kernel
    exact h b hb p q hp
  · exact b_big q
theorem br_8 {x m : St_} (h : Inv_ x m) {v f p : Nat} (hv : v < 10) (hf : f < 10) (hp : 8 ≤ p) : br m f p v = false := by
  unfold br
  cases e : vis m v f
  · rfl
  · obtain ⟨b, hb, e2⟩ := (h.2.2.2.2.2.2.2.2.2.2.2.2 v f hv hf).2 e
    rw [e2, nI_bt hb hp]
    rfl
theorem brX {x m : St_} (h : Inv_ x m) {f : Nat} (hf : f < 10) : ∀ d v g (o t : Int32), v + d = 10 → d < g → (∀ p, p < 32 → bt o p = decide (1 ≤ cn (br m f p) v) ∧ bt t p = decide (2 ≤ cn (br m f p) v)) → ∃ r, fX4_breachesAt_7 x g (nI f) o t (nI v) = some r ∧ ∀ p, p < 32 → bt r p = decide (2 ≤ cn (br m f p) 10) := by
  intro d
  induction d with
  | zero =>
    intro v g o t hv hg hI
    obtain ⟨g, rfl⟩ : ∃ k, g = k + 1 := ⟨g - 1, by omega⟩
    refine ⟨t, ?_, fun p hp => ?_⟩
    · show (if (10 : Int32) ≤ nI v then _ else _) = _
      rw [if_pos (le_10 (by omega) (by omega))]
    · rw [(hI p hp).2, show v = 10 by omega]
  | succ d ih =>
    intro v g o t hv hg hI
    obtain ⟨g, rfl⟩ : ∃ k, g = k + 1 := ⟨g - 1, by omega⟩
    show ∃ r, (if (10 : Int32) ≤ nI v then _ else gd_ _ _ _) = some r ∧ _
    rw [if_neg (nle_10 (by omega)), gd_s hf (by decide), gd_s (show v < 10 by omega) (by decide), gd_s hf (by decide), gd_s (show v < 10 by omega) (by decide), nI_1]
    refine ih (v + 1) g _ _ (by omega) (by omega) (fun p hp => ?_)
    rw [b_or, b_or, b_and, told_bt h (by omega) hf, (hI p hp).1, (hI p hp).2]
    show _ = decide (1 ≤ cn (br m f p) v + n1 (br m f p v)) ∧ _ = decide (2 ≤ cn (br m f p) v + n1 (br m f p v))
    generalize cn (br m f p) v = z
    cases br m f p v
    · simp [n1]
    · simp [n1]
      by_cases h1 : 1 ≤ z <;> by_cases h2 : 2 ≤ z <;> simp [h1, h2] <;> omega
theorem breachesAt_X {x m : St_} (h : Inv_ x m) {f : Nat} (hf : f < 10) : ∃ r, fX4_breachesAt (nI f) x = some r ∧ ∀ p, p < 32 → bt r p = decide (2 ≤ cn (br m f p) 10) := by
  refine brX h hf 10 0 FU_ 0 0 (by decide) (by decide) (fun p hp => ?_)
  rw [b_0]
  exact ⟨rfl, rfl⟩
theorem brM1 {x m : St_} (h : Inv_ x m) {f p : Nat} (hf : f < 10) (hp : p < 32) (k4 : Int32 → Int32 → Int32 → Option Int32) (s : Int32) : ∀ d v g, v + d = sN x → d < g → fX6_breachesAt_16 m k4 g (nI f) s (nI p) (nI (cn (br m f p) v)) (nI v) = fX6_breachesAt_66 m k4 (nI f) s (nI p) (nI (cn (br m f p) (sN x))) := by
  obtain ⟨hb, -, hn⟩ := bnd_s h
  intro d
  induction d with
  | zero =>
    intro v g hv hg
    obtain ⟨g, rfl⟩ : ∃ k, g = k + 1 := ⟨g - 1, by omega⟩
    show (if sS m 2 ≤ nI v then _ else _) = _
    rw [hb, if_pos (nI_le (by omega) (by omega)), show v = sN x by omega]
  | succ d ih =>
    intro v g hv hg
    obtain ⟨g, rfl⟩ : ∃ k, g = k + 1 := ⟨g - 1, by omega⟩
    show (if sS m 2 ≤ nI v then _ else bn_ _ _) = _
    rw [hb, if_neg (nI_ge (by omega) (by omega)), isVisit_s h (by omega) hf, bn_s, ix_10, gd_s (by omega) (by decide), b_get _ hp]
    unfold fX6_breachesAt_57
    have e := ih (v + 1) g (by omega) (by omega)
    rw [show cn (br m f p) (v + 1) = cn (br m f p) v + n1 (br m f p v) from rfl, ← nI_add] at e
    rw [nI_1]
    unfold br at e ⊢
    cases hv2 : vis m v f
    · rw [ite_f]
      rw [hv2, Bool.false_and] at e
      exact e
    · rw [ite_t]
      rw [hv2, Bool.true_and] at e
      exact e
theorem brM {x m : St_} (h : Inv_ x m) {f : Nat} (hf : f < 10) : ∀ d p g (s : Int32), p + d = 8 → d < g → (∀ q, q < 32 → bt s q = (decide (q < p) && decide (2 ≤ cn (br m f q) 10))) → ∃ r, fX6_breachesAt_4 m g (nI f) s (nI p) = some r ∧ ∀ q, q < 32 → bt r q = (decide (q < 8) && decide (2 ≤ cn (br m f q) 10)) := by
  have hn := h.1.1
  intro d
  induction d with
  | zero =>
    intro p g s hp hg hI
    obtain ⟨g, rfl⟩ : ∃ k, g = k + 1 := ⟨g - 1, by omega⟩
    refine ⟨s, ?_, fun q hq => ?_⟩
    · show (if (8 : Int32) ≤ nI p then _ else _) = _
      rw [if_pos (le_8 (by omega) (by omega))]
    · rw [hI q hq, show p = 8 by omega]
  | succ d ih =>
    intro p g s hp hg hI
    obtain ⟨g, rfl⟩ : ∃ k, g = k + 1 := ⟨g - 1, by omega⟩
    show ∃ r, (if (8 : Int32) ≤ nI p then _ else fX6_breachesAt_16 m _ FU_ _ _ _ _ _) = some r ∧ _
    rw [if_neg (nle_8 (by omega))]
    have e := brM1 h hf (p := p) (by omega) (fX6_breachesAt_4 m g) s (sN x) 0 FU_ (by omega) (by unfold FU_; omega)
    rw [show (0 : Int32) = nI (cn (br m f p) 0) from rfl]
    rw [show (nI 0) = nI (cn (br m f p) 0) from rfl] at e
    rw [e, ← cn_ext (g := br m f p) (a := sN x) 10 hn (fun i h1 h2 => by unfold br; rw [vis_n h h2 hf (Or.inl h1)]; rfl)]
    unfold fX6_breachesAt_66 fX6_breachesAt_80
    rw [nI_1]
    have hc := cn_le (br m f p) 10
    have g0 : ∀ q, q < 32 → decide (q < p + 1) = (decide (q < p) || decide (q = p)) := by
      intro q _
      by_cases h1 : q < p <;> by_cases h2 : q = p <;> simp [h1, h2] <;> omega
    by_cases h1 : nI (cn (br m f p) 10) ≤ 1
    · rw [if_pos h1]
      have h2 : ¬ 2 ≤ cn (br m f p) 10 := fun z => nI_ge (a := 1) (b := cn (br m f p) 10) (by omega) (by omega) h1
      refine ih (p + 1) g _ (by omega) (by omega) (fun q hq => ?_)
      show bt (s ||| 0) q = _
      rw [b_or, b_0, Bool.or_false, hI q hq, g0 q hq]
      by_cases h3 : q = p
      · subst h3
        simp [h2]
      · simp [h3]
    · rw [if_neg h1]
      have h2 : 2 ≤ cn (br m f p) 10 := Nat.not_lt.mp (fun z => h1 (nI_le (a := cn (br m f p) 10) (b := 1) (by omega) (by decide)))
      refine ih (p + 1) g _ (by omega) (by omega) (fun q hq => ?_)
      rw [b_or, b_one p (by omega) hq, hI q hq, g0 q hq]
      by_cases h3 : q = p
      · subst h3
        simp [h2]
      · simp [h3]
theorem breach_eq {x m : St_} (h : Inv_ x m) {f : Nat} (hf : f < 10) : ∃ r, fX4_breachesAt (nI f) x = some r ∧ fX6_breachesAt (nI f) m = some r := by
  obtain ⟨r, e1, e2⟩ := breachesAt_X h hf
  obtain ⟨r2, e3, e4⟩ := brM h hf 8 0 FU_ 0 (by decide) (by decide) (fun q hq => by rw [b_0]; simp)
  have : r2 = r := by
    apply b_ext
    intro i hi
    rw [e2 i hi, e4 i hi]
    by_cases h8 : i < 8
    · rw [decide_eq_true h8, Bool.true_and]
    · rw [decide_eq_false h8, Bool.false_and, cn_none 10 (fun v hv => br_8 h hv hf (by omega))]
      rfl
  subst this
  exact ⟨r2, e1, e3⟩
theorem T_breaches {σx σm : St_} (h : Inv_ σx σm) (x1 : Int32) : ∃ r, fX5_breaches x1 σx = some r ∧ fX6_breaches x1 σm = some r := by
  have hn := h.1.1
  unfold fX5_breaches fX6_breaches
  rcases F_ix h x1 with ⟨j, hj, rfl⟩ | ⟨e1, e2⟩
  · obtain ⟨r, e1, e2⟩ := breach_eq h (f := j) (by omega)
    refine ⟨r, ?_, ?_⟩
    · rw [(F_in h hj).1, bn_s, if_neg (by decide), e1]
      rfl
    · rw [(F_in h hj).2, bn_s, if_neg (by decide), e2]
      rfl
  · exact ⟨-1, by rw [e1]; rfl, by rw [e2]; rfl⟩
theorem wt_eq {x m : St_} (hw : ∀ p, p < 8 → sM x 11 p = sM m 9 p) (r : Int32) : ∀ d p g1 g2 (a : Int32), p + d = 8 → d < g1 → d < g2 → ∃ s, fX5_weightOf_4 x g1 r a (nI p) = some s ∧ fX6_weighsAt_11 m g2 r a (nI p) = some s := by
  intro d
  induction d with
  | zero =>
    intro p g1 g2 a hp h1 h2
    obtain ⟨g1, rfl⟩ : ∃ k, g1 = k + 1 := ⟨g1 - 1, by omega⟩
    obtain ⟨g2, rfl⟩ : ∃ k, g2 = k + 1 := ⟨g2 - 1, by omega⟩
    refine ⟨a, ?_, ?_⟩
    · show (if (8 : Int32) ≤ nI p then _ else _) = _
      rw [if_pos (le_8 (by omega) (by omega))]
    · show (if (8 : Int32) ≤ nI p then _ else _) = _
      rw [if_pos (le_8 (by omega) (by omega))]
  | succ d ih =>
    intro p g1 g2 a hp h1 h2
    obtain ⟨g1, rfl⟩ : ∃ k, g1 = k + 1 := ⟨g1 - 1, by omega⟩
    obtain ⟨g2, rfl⟩ : ∃ k, g2 = k + 1 := ⟨g2 - 1, by omega⟩
    show ∃ s, (if (8 : Int32) ≤ nI p then _ else bn_ _ _) = some s ∧ (if (8 : Int32) ≤ nI p then _ else gd_ _ _ _) = some s
    rw [if_neg (nle_8 (by omega)), if_neg (nle_8 (by omega)), hasBit_s r (show p < 32 by omega), bn_s, gd_s (show p < 8 by omega) (by decide), gd_s (show p < 8 by omega) (by decide), b_get r (show p < 32 by omega), hw p (by omega)]
    unfold fX5_weightOf_27
    rw [nI_1]
    cases bt r p
    · rw [ite_f]
      have e : a + nI (n1 false) * sM m 9 p = a := by
        show a + 0 * sM m 9 p = a
        rw [Int32.zero_mul, Int32.add_zero]
      rw [e]
      exact ih (p + 1) g1 g2 a (by omega) (by omega) (by omega)
    · rw [ite_t]
      have e : a + nI (n1 true) * sM m 9 p = a + sM m 9 p := by
        show a + 1 * sM m 9 p = _
        rw [Int32.one_mul]
      rw [e]
      exact ih (p + 1) g1 g2 (a + sM m 9 p) (by omega) (by omega) (by omega)
theorem weigh_eq {x m : St_} (h : Inv_ x m) {f : Nat} (hf : f < 10) : ∃ b s, fX4_breachesAt (nI f) x = some b ∧ fX6_breachesAt (nI f) m = some b ∧ fX5_weightOf b x = some s ∧ fX6_weighsAt (nI f) m = some s := by
  obtain ⟨r, e1, e2⟩ := breach_eq h hf
  obtain ⟨s, e3, e4⟩ := wt_eq (x := x) (m := m) h.2.2.2.2.2.2.2.2.1 r 8 0 FU_ FU_ 0 (by decide) (by decide) (by decide)
  refine ⟨r, s, e1, e2, e3, ?_⟩
  unfold fX6_weighsAt
  rw [e2, bn_s]
  exact e4
theorem T_weighs {σx σm : St_} (h : Inv_ σx σm) (x1 : Int32) : ∃ r, fX5_weighs x1 σx = some r ∧ fX6_weighs x1 σm = some r := by
  have hn := h.1.1
  unfold fX5_weighs fX6_weighs
  rcases F_ix h x1 with ⟨j, hj, rfl⟩ | ⟨e1, e2⟩
  · obtain ⟨b, s, e1, e2, e3, e4⟩ := weigh_eq h (f := j) (by omega)
    refine ⟨s, ?_, ?_⟩
    · rw [(F_in h hj).1, bn_s, if_neg (by decide), e1, bn_s, e3]
      rfl
    · rw [(F_in h hj).2, bn_s, if_neg (by decide), e4]
      rfl
  · exact ⟨-1, by rw [e1]; rfl, by rw [e2]; rfl⟩
/-- v vouches for f -/
def vou (m : St_) (v f : Nat) : Bool := vis m v f && decide (sM m 19 (10 * v + f) = 0)
theorem vouX {x m : St_} (h : Inv_ x m) {f : Nat} (hf : f < 10) : ∀ d v g (s : Int32), v + d = 10 → d < g → (∀ i, i < 32 → bt s i = if i < v then vou m i f else bt (sM x 3 f) i) → ∃ r, fX4_vouchersFor_9 x g (nI f) s (nI v) = some r ∧ ∀ i, i < 32 → bt r i = (decide (i < 10) && vou m i f) := by
  have hV := h.2.2.2.2.2.2.2.2.2.1
  intro d
  induction d with
  | zero =>
    intro v g s hv hg hI
    obtain ⟨g, rfl⟩ : ∃ k, g = k + 1 := ⟨g - 1, by omega⟩
    refine ⟨s, ?_, fun i hi => ?_⟩
    · show (if (10 : Int32) ≤ nI v then _ else _) = _
      rw [if_pos (le_10 (by omega) (by omega))]
    · rw [hI i hi, show v = 10 by omega]
      by_cases h1 : i < 10
      · rw [if_pos h1, decide_eq_true h1, Bool.true_and]
      · rw [if_neg h1, decide_eq_false h1, Bool.false_and, (hV f hf).1 i (by omega)]
  | succ d ih =>
    intro v g s hv hg hI
    obtain ⟨g, rfl⟩ : ∃ k, g = k + 1 := ⟨g - 1, by omega⟩
    have hT := (h.2.2.2.2.2.2.2.2.2.2.2.2 v f (by omega) hf).1
    show ∃ r, (if (10 : Int32) ≤ nI v then _ else gd_ _ _ _) = some r ∧ _
    rw [if_neg (nle_10 (by omega)), gd_s hf (by decide), gd_s (show v < 10 by omega) (by decide), hT]
    unfold fX4_vouchersFor_34
    rw [nI_1]
    have hvv : bt (sM x 3 f) v = vis m v f := (hV f hf).2 v (by omega)
    by_cases hz : (if vis m v f = true then sM m 19 (10 * v + f) else 0) = 0
    · rw [if_pos hz]
      refine ih (v + 1) g s (by omega) (by omega) (fun i hi => ?_)
      rw [hI i hi]
      by_cases h1 : i < v
      · rw [if_pos h1, if_pos (by omega)]
      · rw [if_neg h1]
        by_cases h2 : i = v
        · subst h2
          rw [if_pos (by omega), hvv]
          unfold vou
          cases e : vis m i f
          · rfl
          · rw [e, if_pos rfl] at hz
            rw [decide_eq_true hz]
            rfl
        · rw [if_neg (by omega)]
    · rw [if_neg hz]
      refine ih (v + 1) g _ (by omega) (by omega) (fun i hi => ?_)
      rw [b_not v (by omega) s hi, hI i hi]
      by_cases h1 : i < v
      · rw [if_pos h1, if_pos (by omega), decide_eq_false (by omega)]
        simp
      · rw [if_neg h1]
        by_cases h2 : i = v
        · subst h2
          rw [if_pos (by omega), decide_eq_true rfl]
          unfold vou
          cases e : vis m i f
          · rw [e] at hz
            exact absurd rfl hz
          · rw [e, if_pos rfl] at hz
            rw [decide_eq_false hz]
            simp
        · rw [if_neg (by omega), decide_eq_false h2]
          simp
theorem vouchersFor_s {x m : St_} (h : Inv_ x m) {f : Nat} (hf : f < 10) : ∃ r, fX4_vouchersFor (nI f) x = some r ∧ ∀ i, i < 32 → bt r i = (decide (i < 10) && vou m i f) := by
  unfold fX4_vouchersFor
  rw [gd_s hf (by decide)]
  exact vouX h hf 10 0 FU_ (sM x 3 f) (by decide) (by decide) (fun i hi => by rw [if_neg (by omega)])
theorem isVouched_s {x m : St_} (h : Inv_ x m) {v f : Nat} (hv : v < 10) (hf : f < 10) : fX6_isVouched (nI v) (nI f) m = some (nI (n1 (vou m v f))) := by
  unfold fX6_isVouched vou
  rw [isVisit_s h hv hf, bn_s]
  cases vis m v f
  · rw [ite_f]
    rfl
  · rw [ite_t, ix_10, gd_s (by omega) (by decide), Bool.true_and]
    by_cases hz : sM m 19 (10 * v + f) = 0
    · rw [if_pos hz, decide_eq_true hz]
      rfl
    · rw [if_neg hz, decide_eq_false hz]
      rfl
theorem T_vouches {σx σm : St_} (h : Inv_ σx σm) (x1 x2 : Int32) : ∃ r, fX5_vouches x1 x2 σx = some r ∧ fX6_vouches x1 x2 σm = some r := by
  have hn := h.1.1
  unfold fX5_vouches fX6_vouches fX6_vouches_16
  rcases FF h x1 x2 with ⟨i, j, hi, hj, rfl, rfl, e1, e2, e3⟩ | ⟨e1, e2 | ⟨e2, e3⟩⟩
  · obtain ⟨r, k1, k2⟩ := vouchersFor_s h (f := j) (by omega)
    refine ⟨nI (n1 (vou σm i j)), ?_, ?_⟩
    · rw [e1, bn_s, if_neg (by decide), k1, bn_s, hasBit_s r (by omega), bn_s, oneIf_s, k2 i (by omega), decide_eq_true (by omega), Bool.true_and]
      rfl
    · rw [e2, bn_s, if_neg (by decide), e3, bn_s, if_neg (by decide), isVouched_s h (by omega) (by omega), bn_s]
      cases vou σm i j <;> rfl
  · exact ⟨-1, by rw [e1]; rfl, by rw [e2]; rfl⟩
  · exact ⟨-1, by rw [e1]; rfl, by rw [e2, bn_s, if_neg (by decide), e3]; rfl⟩
theorem number_s (x : St_) {k : Nat} (hk : k < 6) : fX2_number (nI k) x = some (sM x 1 k) := by
  unfold fX2_number
  rw [show (6 : Int32) = nI 6 from rfl, isBelow_1 hk (by decide), bn_s, if_neg (by decide), gd_s hk (by decide)]
theorem se_eq {x m : St_} (h : Inv_ x m) (gr : Int32) : ∀ d f g1 g2 (a s : Int32), f + d = sN x → d < g1 → d < g2 → ∃ A S, fX5_sealed_17 x g1 gr a s (nI f) = fX5_sealed_68 x A S ∧ fX6_sealed_18 m g2 gr a s (nI f) = fX6_sealed_68 m A S := by
  obtain ⟨hb, hb2, hn⟩ := bnd_s h
  have hF := h.2.2.2.2.2.1
  intro d
  induction d with
  | zero =>
    intro f g1 g2 a s hf h1 h2
    obtain ⟨g1, rfl⟩ : ∃ k, g1 = k + 1 := ⟨g1 - 1, by omega⟩
    obtain ⟨g2, rfl⟩ : ∃ k, g2 = k + 1 := ⟨g2 - 1, by omega⟩
    refine ⟨a, s, ?_, ?_⟩
    · show (if sS x 5 ≤ nI f then _ else _) = _
      rw [hb2, if_pos (nI_le (by omega) (by omega))]
    · show (if sS m 2 ≤ nI f then _ else _) = _
      rw [hb, if_pos (nI_le (by omega) (by omega))]
  | succ d ih =>
    intro f g1 g2 a s hf h1 h2
    obtain ⟨g1, rfl⟩ : ∃ k, g1 = k + 1 := ⟨g1 - 1, by omega⟩
    obtain ⟨g2, rfl⟩ : ∃ k, g2 = k + 1 := ⟨g2 - 1, by omega⟩
    obtain ⟨⟨-, f1, f2, -⟩, hb1, -⟩ := hF f (by omega)
    show ∃ A S, (if sS x 5 ≤ nI f then _ else bn_ _ _) = fX5_sealed_68 x A S ∧ (if sS m 2 ≤ nI f then _ else gd_ _ _ _) = fX6_sealed_68 m A S
    rw [hb2, hb, if_neg (nI_ge (by omega) (by omega)), if_neg (nI_ge (by omega) (by omega)), F_at h (by omega), bn_s, gd_s (by omega) (by decide)]
    dsimp only
    rw [f1, f2]
    unfold fX5_sealed_62 fX6_sealed_62 fX6_sealed_60 fX6_sealed_62
    rw [nI_1]
    by_cases hg : sM m 8 f = gr
    · rw [if_pos hg, if_pos hg, gd_s (by omega) (by decide)]
      unfold fX5_oneIf
      by_cases hz : sM m 10 f = 0
      · rw [if_pos hz, if_pos hz, bn_s]
        exact ih (f + 1) g1 g2 (a + 1) (s + 0) (by omega) (by omega) (by omega)
      · rw [if_neg hz, if_neg hz, bn_s]
        exact ih (f + 1) g1 g2 (a + 1) (s + 1) (by omega) (by omega) (by omega)
    · rw [if_neg hg, if_neg hg]
      exact ih (f + 1) g1 g2 a s (by omega) (by omega) (by omega)
theorem T_sealed {σx σm : St_} (h : Inv_ σx σm) (x1 : Int32) : ∃ r, fX5_sealed x1 σx = some r ∧ fX6_sealed x1 σm = some r := by
  have hn := h.1.1
  obtain ⟨hr, -⟩ := h.2.2.2.2.1
  unfold fX5_sealed fX6_sealed
  rcases pk_ix x1 (n := 4) (by decide) with q | q | ⟨j, hj, rfl⟩
  · refine ⟨-1, ?_, ?_⟩
    · rw [show (4 : Int32) = nI 4 from rfl, isBelow_0 (Or.inl q)]
      rfl
    · rw [show (3 : Int32) = nI 4 - 1 from by decide, lies_0 (by decide) (Or.inl q)]
      rfl
  · refine ⟨-1, ?_, ?_⟩
    · rw [show (4 : Int32) = nI 4 from rfl, isBelow_0 (Or.inr q)]
      rfl
    · rw [show (3 : Int32) = nI 4 - 1 from by decide, lies_0 (by decide) (Or.inr q)]
      rfl
  · rw [show (4 : Int32) = nI 4 from rfl, isBelow_1 hj (by decide), bn_s, if_neg (by decide), show (0 : Int32) = nI 0 from rfl, show (3 : Int32) = nI 3 from rfl, lies_1 (Nat.zero_le j) (by omega) (by decide), bn_s, if_neg (by decide)]
    obtain ⟨A, S, e1, e2⟩ := se_eq h (nI j) (sN σx) 0 FU_ FU_ (nI 0) (nI 0) (by omega) (by unfold FU_; omega) (by unfold FU_; omega)
    rw [e1, e2]
    have e5 : fX2_number 5 σx = some (sM σm 5 5) := by rw [← hr 5 (by decide)]; exact number_s σx (by decide)
    have g5 : ∀ K : Nat → Option Int32, gd_ 5 6 K = K 5 := fun K => gd_s (j := 5) (by decide) (by decide) K
    unfold fX5_sealed_68 fX6_sealed_68 fX5_sealed_93 fX5_sealed_94 fX5_oneIf
    rw [e5, bn_s, g5, Int32.mul_comm S 100]
    by_cases h1 : A ≤ 0
    · rw [if_pos h1, if_pos h1]
      exact ⟨0, rfl, rfl⟩
    · rw [if_neg h1, if_neg h1]
      by_cases h2 : 100 * S < sM σm 5 5 * A
      · rw [if_pos h2, if_pos h2]
        exact ⟨0, rfl, rfl⟩
      · rw [if_neg h2, if_neg h2]
        exact ⟨1, rfl, rfl⟩
