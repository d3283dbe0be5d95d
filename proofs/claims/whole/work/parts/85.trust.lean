/-! trust: levels of who vouches for whom -/
/-- reached from a within s steps -/
def rc (m : St_) (a : Nat) : Nat → Nat → Bool
  | 0, i => decide (i = a)
  | s + 1, i => rc m a s i || (List.range 10).any (fun v => rc m a s v && vou m v i)
theorem rc_up {m : St_} {a s i : Nat} (h : rc m a s i = true) : rc m a (s + 1) i = true := by
  show (rc m a s i || _) = true
  rw [h, Bool.true_or]
theorem rc_mono {m : St_} {a s i : Nat} (h : rc m a s i = true) : ∀ d, rc m a (s + d) i = true
  | 0 => h
  | d + 1 => rc_up (rc_mono h d)
theorem rc_step {m : St_} {a s i v : Nat} (hv : v < 10) (h : rc m a s v = true) (h2 : vou m v i = true) : rc m a (s + 1) i = true := by
  show (rc m a s i || _) = true
  rw [Bool.or_eq_true]
  refine Or.inr (List.any_eq_true.mpr ⟨v, List.mem_range.mpr hv, ?_⟩)
  rw [h, h2]
  rfl
theorem rc_inv {m : St_} {a s i : Nat} (h : rc m a (s + 1) i = true) : rc m a s i = true ∨ ∃ v, v < 10 ∧ rc m a s v = true ∧ vou m v i = true := by
  have h' : (rc m a s i || (List.range 10).any (fun v => rc m a s v && vou m v i)) = true := h
  rw [Bool.or_eq_true] at h'
  rcases h' with q | q
  · exact Or.inl q
  · obtain ⟨v, h1, h2⟩ := List.any_eq_true.mp q
    rw [Bool.and_eq_true] at h2
    exact Or.inr ⟨v, List.mem_range.mp h1, h2.1, h2.2⟩
theorem vou_n {x m : St_} (h : Inv_ x m) {v f : Nat} (hv : v < 10) (hf : f < 10) (e : vou m v f = true) : v < sN x ∧ f < sN x := by
  unfold vou at e
  rw [Bool.and_eq_true] at e
  exact (h.2.2.2.2.2.2.2.2.2.2.1 v f hv hf).2 e.1
/-- if nothing new comes, nothing comes later -/
theorem rc_stable {m : St_} {a s : Nat} (hs : ∀ i, i < 10 → rc m a (s + 1) i = rc m a s i) : ∀ d i, i < 10 → rc m a (s + d) i = rc m a s i
  | 0, _, _ => rfl
  | d + 1, i, hi => by
    have ih := rc_stable hs d
    show (rc m a (s + d) i || (List.range 10).any (fun v => rc m a (s + d) v && vou m v i)) = _
    rw [← hs i hi]
    show _ = (rc m a s i || (List.range 10).any (fun v => rc m a s v && vou m v i))
    rw [ih i hi]
    congr 1
    apply Bool.eq_iff_iff.mpr
    rw [List.any_eq_true, List.any_eq_true]
    constructor
    · rintro ⟨v, h1, h2⟩
      rw [ih v (List.mem_range.mp h1)] at h2
      exact ⟨v, h1, h2⟩
    · rintro ⟨v, h1, h2⟩
      rw [← ih v (List.mem_range.mp h1)] at h2
      exact ⟨v, h1, h2⟩
theorem cn_mono {g g' : Nat → Bool} : ∀ k, (∀ i, i < k → g i = true → g' i = true) → cn g k ≤ cn g' k
  | 0, _ => Nat.le_refl _
  | k + 1, h => by
    have h1 := cn_mono (g := g) (g' := g') k (fun i hi => h i (by omega))
    have h2 := h k (by omega)
    show cn g k + n1 (g k) ≤ cn g' k + n1 (g' k)
    cases hg : g k
    · show _ + 0 ≤ _
      omega
    · rw [h2 hg]
      omega
theorem cn_lt {g g' : Nat → Bool} : ∀ k, (∀ i, i < k → g i = true → g' i = true) → (∃ i, i < k ∧ g i = false ∧ g' i = true) → cn g k < cn g' k
  | 0, _, h => by obtain ⟨i, hi, -⟩ := h; omega
  | k + 1, h, ⟨i, hi, e1, e2⟩ => by
    show cn g k + n1 (g k) < cn g' k + n1 (g' k)
    by_cases hk : i = k
    · subst hk
      have := cn_mono (g := g) (g' := g') i (fun j hj => h j (by omega))
      rw [e1, e2]
      show cn g i + 0 < cn g' i + 1
      omega
    · have h1 := cn_lt (g := g) (g' := g') k (fun j hj => h j (by omega)) ⟨i, by omega, e1, e2⟩
      have h2 := h k (by omega)
      cases hg : g k
      · show _ + 0 < _
        omega
      · rw [h2 hg]
        omega
/-- a farm first reached at step s: s + 1 farms at least are there -/
theorem rc_count {x m : St_} (h : Inv_ x m) {a b : Nat} (ha : a < sN x) (hb : b < 10) : ∀ s, rc m a s b = true → (∀ t, t < s → rc m a t b = false) → s + 1 ≤ sN x := by
  intro s hs hno
  have hn := h.1.1
  have sub : ∀ t i, i < 10 → rc m a t i = true → i < sN x := by
    intro t
    induction t with
    | zero =>
      intro i _ e
      have : i = a := of_decide_eq_true e
      omega
    | succ t ih =>
      intro i hi e
      rcases rc_inv e with q | ⟨v, hv, q1, q2⟩
      · exact ih i hi q
      · exact (vou_n h hv hi q2).2
  have grow : ∀ t, t ≤ s → t + 1 ≤ cn (rc m a t) 10 := by
    intro t
    induction t with
    | zero =>
      intro _
      have h1 := cn_lt (g := fun _ => false) (g' := rc m a 0) 10 (fun i _ e => by cases e) ⟨a, by omega, rfl, decide_eq_true rfl⟩
      omega
    | succ t ih =>
      intro ht
      have h1 := ih (by omega)
      have h2 : cn (rc m a t) 10 < cn (rc m a (t + 1)) 10 := by
        refine cn_lt 10 (fun i _ e => rc_up e) (Classical.byContradiction fun hc => ?_)
        have st : ∀ i, i < 10 → rc m a (t + 1) i = rc m a t i := by
          intro i hi
          cases e : rc m a t i
          · cases e2 : rc m a (t + 1) i
            · rfl
            · exact absurd ⟨i, hi, e, e2⟩ hc
          · exact rc_up e
        have e1 := rc_stable st (s - t) b hb
        rw [show t + (s - t) = s by omega, hs] at e1
        rw [hno t (by omega)] at e1
        cases e1
      omega
  have h1 := grow s (Nat.le_refl s)
  have h2 : cn (rc m a s) 10 ≤ sN x := by
    rw [cn_ext (g := rc m a s) (a := sN x) 10 hn (fun i h1 h2 => by
      cases e : rc m a s i
      · rfl
      · have := sub s i h2 e
        omega)]
    exact cn_le _ _
  omega
/-- the class's loop -/
theorem vby {x m : St_} (h : Inv_ x m) (w : Int32) : ∀ d f g (s : Int32), f + d = 10 → d < g → (∀ i, i < 32 → bt s i = (decide (i < f) && (List.range 10).any (fun v => bt w v && vou m v i))) → ∃ r, fX4_vouchedForBy_4 x g w s (nI f) = some r ∧ ∀ i, i < 32 → bt r i = (decide (i < 10) && (List.range 10).any (fun v => bt w v && vou m v i)) := by
  intro d
  induction d with
  | zero =>
    intro f g s hf hg hI
    obtain ⟨g, rfl⟩ : ∃ k, g = k + 1 := ⟨g - 1, by omega⟩
    refine ⟨s, ?_, fun i hi => by rw [hI i hi, show f = 10 by omega]⟩
    show (if (10 : Int32) ≤ nI f then _ else _) = _
    rw [if_pos (le_10 (by omega) (by omega))]
  | succ d ih =>
    intro f g s hf hg hI
    obtain ⟨g, rfl⟩ : ∃ k, g = k + 1 := ⟨g - 1, by omega⟩
    obtain ⟨r, k1, k2⟩ := vouchersFor_s h (f := f) (by omega)
    show ∃ r, (if (10 : Int32) ≤ nI f then _ else bn_ _ _) = some r ∧ _
    rw [if_neg (nle_10 (by omega)), k1, bn_s]
    unfold fX4_vouchedForBy_26
    rw [nI_1]
    have g0 : ∀ i, decide (i < f + 1) = (decide (i < f) || decide (i = f)) := by
      intro i
      by_cases h1 : i < f <;> by_cases h2 : i = f <;> simp [h1, h2] <;> omega
    by_cases hz : (r &&& w) = 0
    · rw [if_pos hz]
      refine ih (f + 1) g s (by omega) (by omega) (fun i hi => ?_)
      rw [hI i hi, g0 i]
      by_cases h2 : i = f
      · subst h2
        have : (List.range 10).any (fun v => bt w v && vou m v i) = false := by
          rw [List.any_eq_false]
          intro v hv
          have hv' := List.mem_range.mp hv
          have e : bt (r &&& w) v = false := by rw [hz]; exact b_0 v
          rw [b_and, k2 v (by omega), decide_eq_true hv', Bool.true_and] at e
          rw [Bool.and_comm, e]
          decide
        rw [this]
        simp
      · simp [h2]
    · rw [if_neg hz]
      refine ih (f + 1) g _ (by omega) (by omega) (fun i hi => ?_)
      rw [b_or, b_one f (by omega) hi, hI i hi, g0 i]
      by_cases h2 : i = f
      · subst h2
        have : (List.range 10).any (fun v => bt w v && vou m v i) = true := by
          apply Classical.byContradiction
          intro hc
          apply hz
          apply b_ext
          intro v hv
          rw [b_0, b_and, k2 v hv]
          by_cases h10 : v < 10
          · rw [decide_eq_true h10, Bool.true_and]
            cases e : (vou m v i && bt w v)
            · rfl
            · exact absurd (List.any_eq_true.mpr ⟨v, List.mem_range.mpr h10, by rw [Bool.and_comm]; exact e⟩) hc
          · rw [decide_eq_false h10]
            rfl
        rw [this]
        simp
      · simp [h2]
theorem tru_X {x m : St_} (h : Inv_ x m) {a b : Nat} (hb : b < 10) : ∀ d s g (w : Int32), s + d = 10 → d < g → (∀ i, i < 32 → bt w i = (decide (i < 10) && rc m a s i)) → (∀ t, t < s → rc m a t b = false) → ∃ r, fX5_trust_18 x g (nI b) w (nI s) = some r ∧ ((∃ z, z < 10 ∧ r = nI z ∧ rc m a z b = true ∧ ∀ t, t < z → rc m a t b = false) ∨ (r = -1 ∧ ∀ t, t < 10 → rc m a t b = false)) := by
  intro d
  induction d with
  | zero =>
    intro s g w hs hg hI hno
    obtain ⟨g, rfl⟩ : ∃ k, g = k + 1 := ⟨g - 1, by omega⟩
    refine ⟨-1, ?_, Or.inr ⟨rfl, fun t ht => hno t (by omega)⟩⟩
    show (if (10 : Int32) ≤ nI s then _ else _) = _
    rw [if_pos (le_10 (by omega) (by omega))]
  | succ d ih =>
    intro s g w hs hg hI hno
    obtain ⟨g, rfl⟩ : ∃ k, g = k + 1 := ⟨g - 1, by omega⟩
    show ∃ r, (if (10 : Int32) ≤ nI s then _ else bn_ _ _) = some r ∧ _
    rw [if_neg (nle_10 (by omega)), hasBit_s w (show b < 32 by omega), bn_s, hI b (by omega), decide_eq_true hb, Bool.true_and]
    cases e : rc m a s b
    · rw [ite_f]
      unfold fX4_vouchedForBy
      obtain ⟨r, k1, k2⟩ := vby h w 10 0 FU_ 0 (by decide) (by decide) (fun i hi => by rw [b_0]; simp)
      rw [show (0 : Int32) = nI 0 from rfl] at k1 ⊢
      rw [k1, bn_s, nI_1]
      refine ih (s + 1) g _ (by omega) (by omega) (fun i hi => ?_) (fun t ht => ?_)
      · rw [b_or, hI i hi, k2 i hi]
        show _ = (decide (i < 10) && (rc m a s i || (List.range 10).any (fun v => rc m a s v && vou m v i)))
        have : (List.range 10).any (fun v => bt w v && vou m v i) = (List.range 10).any (fun v => rc m a s v && vou m v i) := by
          apply Bool.eq_iff_iff.mpr
          rw [List.any_eq_true, List.any_eq_true]
          constructor
          · rintro ⟨v, h1, h2⟩
            have hv := List.mem_range.mp h1
            rw [hI v (by omega), decide_eq_true hv, Bool.true_and] at h2
            exact ⟨v, h1, h2⟩
          · rintro ⟨v, h1, h2⟩
            have hv := List.mem_range.mp h1
            refine ⟨v, h1, ?_⟩
            rw [hI v (by omega), decide_eq_true hv, Bool.true_and]
            exact h2
        rw [this]
        cases decide (i < 10) <;> simp
      · by_cases ht2 : t = s
        · subst ht2
          exact e
        · exact hno t (by omega)
    · rw [ite_t]
      exact ⟨nI s, rfl, Or.inl ⟨s, by omega, rfl, e, hno⟩⟩
