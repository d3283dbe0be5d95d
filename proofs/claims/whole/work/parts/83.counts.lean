/-! sums over the farms -/
theorem vof_s {x m : St_} (h : Inv_ x m) {f : Nat} (hf : f < 10) : ∀ d v g, v + d = sN x → d < g → fX6_visitorsOf_4 m g (nI f) (nI (cn (fun v => vis m v f) v)) (nI v) = some (nI (cn (fun v => vis m v f) (sN x))) := by
  obtain ⟨hb, -, hn⟩ := bnd_s h
  intro d
  induction d with
  | zero =>
    intro v g hv hg
    obtain ⟨g, rfl⟩ : ∃ k, g = k + 1 := ⟨g - 1, by omega⟩
    show (if sS m 2 ≤ nI v then _ else _) = _
    rw [hb, if_pos (nI_le (by omega) (by omega)), show v = sN x by omega]
  | succ d ih =>
    intro v g hv hg
    obtain ⟨g, rfl⟩ : ∃ k, g = k + 1 := ⟨g - 1, by omega⟩
    show (if sS m 2 ≤ nI v then _ else bn_ _ _) = _
    rw [hb, if_neg (nI_ge (by omega) (by omega)), isVisit_s h (by omega) hf, bn_s]
    unfold fX6_visitorsOf_27
    have e := ih (v + 1) g (by omega) (by omega)
    rw [show cn (fun v => vis m v f) (v + 1) = cn (fun v => vis m v f) v + n1 (vis m v f) from rfl, ← nI_add] at e
    rw [nI_1]
    cases hv2 : vis m v f
    · rw [ite_f]
      rw [hv2] at e
      exact e
    · rw [ite_t]
      rw [hv2] at e
      exact e
theorem visitorsOf_s {x m : St_} (h : Inv_ x m) {f : Nat} (hf : f < 10) : fX6_visitorsOf (nI f) m = some (nI (cn (fun v => vis m v f) 10)) := by
  have hn := h.1.1
  unfold fX6_visitorsOf
  have e := vof_s h hf (sN x) 0 FU_ (by omega) (by unfold FU_; omega)
  rw [cn_ext (g := fun v => vis m v f) (a := sN x) 10 hn (fun i h1 h2 => vis_n h h2 hf (Or.inl h1))]
  exact e
theorem visitorCount_s {x m : St_} (h : Inv_ x m) {f : Nat} (hf : f < 10) : fX4_visitorCount (nI f) x = some (nI (cn (fun v => vis m v f) 10)) := by
  have hV := h.2.2.2.2.2.2.2.2.2.1
  unfold fX4_visitorCount
  rw [gd_s hf (by decide), bitCount_s (hV f hf).1, bn_s]
  rw [cn_congr (g' := fun v => vis m v f) 10 (fun i hi => (hV f hf).2 i hi)]
theorem by_s {x m : St_} (h : Inv_ x m) {v : Nat} (hv : v < 10) : ∀ d f g, f + d = 10 → d < g → fX4_visitsBy_4 x g (nI v) (nI (cn (fun f => vis m v f) f)) (nI f) = some (nI (cn (fun f => vis m v f) 10)) := by
  intro d
  induction d with
  | zero =>
    intro f g hf hg
    obtain ⟨g, rfl⟩ : ∃ k, g = k + 1 := ⟨g - 1, by omega⟩
    show (if (10 : Int32) ≤ nI f then _ else _) = _
    rw [if_pos (le_10 (by omega) (by omega)), show f = 10 by omega]
  | succ d ih =>
    intro f g hf hg
    obtain ⟨g, rfl⟩ : ∃ k, g = k + 1 := ⟨g - 1, by omega⟩
    show (if (10 : Int32) ≤ nI f then _ else bn_ _ _) = _
    rw [if_neg (nle_10 (by omega)), isVisitor_s h hv (by omega), bn_s, oneIf_s, bn_s, nI_add, nI_1]
    exact ih (f + 1) g (by omega) (by omega)
theorem lk_s {x m : St_} (h : Inv_ x m) {v : Nat} (hv : v < 10) : ∀ d f g, f + d = sN x → d < g → fX6_look_139 m g (nI v) (nI (cn (fun f => vis m v f) f)) (nI f) = some (nI (cn (fun f => vis m v f) (sN x))) := by
  obtain ⟨hb, -, hn⟩ := bnd_s h
  intro d
  induction d with
  | zero =>
    intro f g hf hg
    obtain ⟨g, rfl⟩ : ∃ k, g = k + 1 := ⟨g - 1, by omega⟩
    show (if sS m 2 ≤ nI f then _ else _) = _
    rw [hb, if_pos (nI_le (by omega) (by omega)), show f = sN x by omega]
  | succ d ih =>
    intro f g hf hg
    obtain ⟨g, rfl⟩ : ∃ k, g = k + 1 := ⟨g - 1, by omega⟩
    show (if sS m 2 ≤ nI f then _ else bn_ _ _) = _
    rw [hb, if_neg (nI_ge (by omega) (by omega)), isVisit_s h hv (by omega), bn_s]
    unfold fX6_look_164
    have e := ih (f + 1) g (by omega) (by omega)
    rw [show cn (fun f => vis m v f) (f + 1) = cn (fun f => vis m v f) f + n1 (vis m v f) from rfl, ← nI_add] at e
    rw [nI_1]
    cases hv2 : vis m v f
    · rw [ite_f]
      rw [hv2] at e
      exact e
    · rw [ite_t]
      rw [hv2] at e
      exact e
theorem visits_eq {x m : St_} (h : Inv_ x m) {v : Nat} (hv : v < 10) : fX4_visitsBy (nI v) x = some (nI (cn (fun f => vis m v f) 10)) ∧ fX6_look_139 m FU_ (nI v) 0 0 = some (nI (cn (fun f => vis m v f) 10)) := by
  have hn := h.1.1
  refine ⟨by_s h hv 10 0 FU_ (by decide) (by decide), ?_⟩
  have e := lk_s h hv (sN x) 0 FU_ (by omega) (by unfold FU_; omega)
  rw [cn_ext (g := fun f => vis m v f) (a := sN x) 10 hn (fun i h1 h2 => vis_n h hv h2 (Or.inr h1))]
  exact e
/-- a sum of numbers -/
def sm (g : Nat → Nat) : Nat → Nat
  | 0 => 0
  | k + 1 => sm g k + g k
theorem sm_ext {g : Nat → Nat} {a : Nat} : ∀ b, a ≤ b → (∀ i, a ≤ i → i < b → g i = 0) → sm g b = sm g a
  | 0, h, _ => by
    have : a = 0 := by omega
    subst this
    rfl
  | b + 1, h, hz => by
    rcases Nat.lt_or_ge b a with q | q
    · have : a = b + 1 := by omega
      subst this
      rfl
    · show sm g b + g b = sm g a
      rw [sm_ext b q (fun i h1 h2 => hz i h1 (by omega)), hz b q (by omega)]
      rfl
theorem cn_none {g : Nat → Bool} : ∀ k, (∀ i, i < k → g i = false) → cn g k = 0
  | 0, _ => rfl
  | k + 1, h => by
    show cn g k + n1 (g k) = 0
    rw [cn_none k (fun i hi => h i (by omega)), h k (by omega)]
    rfl
theorem tot_X {x m : St_} (h : Inv_ x m) : ∀ d f g, f + d = 10 → d < g → fX4_total_4 x g (nI (sm (fun f => cn (fun v => vis m v f) 10) f)) (nI f) = some (nI (sm (fun f => cn (fun v => vis m v f) 10) 10)) := by
  intro d
  induction d with
  | zero =>
    intro f g hf hg
    obtain ⟨g, rfl⟩ : ∃ k, g = k + 1 := ⟨g - 1, by omega⟩
    show (if (10 : Int32) ≤ nI f then _ else _) = _
    rw [if_pos (le_10 (by omega) (by omega)), show f = 10 by omega]
  | succ d ih =>
    intro f g hf hg
    obtain ⟨g, rfl⟩ : ∃ k, g = k + 1 := ⟨g - 1, by omega⟩
    show (if (10 : Int32) ≤ nI f then _ else bn_ _ _) = _
    rw [if_neg (nle_10 (by omega)), visitorCount_s h (by omega), bn_s, nI_add, nI_1]
    exact ih (f + 1) g (by omega) (by omega)
theorem tot_M {x m : St_} (h : Inv_ x m) : ∀ d f g, f + d = sN x → d < g → fX6_count_113 m g (nI (sm (fun f => cn (fun v => vis m v f) 10) f)) (nI f) = some (nI (sm (fun f => cn (fun v => vis m v f) 10) (sN x))) := by
  obtain ⟨hb, -, hn⟩ := bnd_s h
  intro d
  induction d with
  | zero =>
    intro f g hf hg
    obtain ⟨g, rfl⟩ : ∃ k, g = k + 1 := ⟨g - 1, by omega⟩
    show (if sS m 2 ≤ nI f then _ else _) = _
    rw [hb, if_pos (nI_le (by omega) (by omega)), show f = sN x by omega]
  | succ d ih =>
    intro f g hf hg
    obtain ⟨g, rfl⟩ : ∃ k, g = k + 1 := ⟨g - 1, by omega⟩
    show (if sS m 2 ≤ nI f then _ else bn_ _ _) = _
    rw [hb, if_neg (nI_ge (by omega) (by omega)), visitorsOf_s h (by omega), bn_s, nI_add, nI_1]
    exact ih (f + 1) g (by omega) (by omega)
theorem total_eq {x m : St_} (h : Inv_ x m) : fX4_total x = some (nI (sm (fun f => cn (fun v => vis m v f) 10) 10)) ∧ fX6_count_113 m FU_ 0 0 = some (nI (sm (fun f => cn (fun v => vis m v f) 10) 10)) := by
  have hn := h.1.1
  refine ⟨tot_X h 10 0 FU_ (by decide) (by decide), ?_⟩
  have e := tot_M h (sN x) 0 FU_ (by omega) (by unfold FU_; omega)
  rw [sm_ext (g := fun f => cn (fun v => vis m v f) 10) (a := sN x) 10 hn (fun i h1 h2 => cn_none 10 (fun v hv => vis_n h hv h2 (Or.inr h1)))]
  exact e
/-- seals and those out -/
theorem seal_X {x m : St_} (h : Inv_ x m) : ∀ d f g, f + d = sN x → d < g → fX5_countSeals_4 x g (nI (cn (fun i => tt (sM m 10 i)) f)) (nI f) = some (nI (cn (fun i => tt (sM m 10 i)) (sN x))) := by
  obtain ⟨-, hb, hn⟩ := bnd_s h
  have hF := h.2.2.2.2.2.1
  intro d
  induction d with
  | zero =>
    intro f g hf hg
    obtain ⟨g, rfl⟩ : ∃ k, g = k + 1 := ⟨g - 1, by omega⟩
    show (if sS x 5 ≤ nI f then _ else _) = _
    rw [hb, if_pos (nI_le (by omega) (by omega)), show f = sN x by omega]
  | succ d ih =>
    intro f g hf hg
    obtain ⟨g, rfl⟩ : ∃ k, g = k + 1 := ⟨g - 1, by omega⟩
    show (if sS x 5 ≤ nI f then _ else bn_ _ _) = _
    rw [hb, if_neg (nI_ge (by omega) (by omega)), F_at h (by omega), bn_s]
    dsimp only
    unfold fX5_countSeals_32
    have e := ih (f + 1) g (by omega) (by omega)
    rw [show cn (fun i => tt (sM m 10 i)) (f + 1) = cn (fun i => tt (sM m 10 i)) f + n1 (tt (sM m 10 f)) from rfl, ← nI_add] at e
    rw [(hF f (by omega)).1.2.2.1, nI_1]
    by_cases hz : sM m 10 f = 0
    · rw [if_pos hz]
      rw [tt_0.mp hz] at e
      rw [show nI (cn (fun i => tt (sM m 10 i)) f) + nI (n1 false) = nI (cn (fun i => tt (sM m 10 i)) f) by rw [nI_add]; rfl] at e
      exact e
    · rw [if_neg hz]
      rw [show tt (sM m 10 f) = true from decide_eq_true hz] at e
      exact e
theorem seal_M {x m : St_} (h : Inv_ x m) : ∀ d f g, f + d = sN x → d < g → fX6_count_139 m g (nI (cn (fun i => tt (sM m 10 i)) f)) (nI f) = some (nI (cn (fun i => tt (sM m 10 i)) (sN x))) := by
  obtain ⟨hb, -, hn⟩ := bnd_s h
  intro d
  induction d with
  | zero =>
    intro f g hf hg
    obtain ⟨g, rfl⟩ : ∃ k, g = k + 1 := ⟨g - 1, by omega⟩
    show (if sS m 2 ≤ nI f then _ else _) = _
    rw [hb, if_pos (nI_le (by omega) (by omega)), show f = sN x by omega]
  | succ d ih =>
    intro f g hf hg
    obtain ⟨g, rfl⟩ : ∃ k, g = k + 1 := ⟨g - 1, by omega⟩
    show (if sS m 2 ≤ nI f then _ else gd_ _ _ _) = _
    rw [hb, if_neg (nI_ge (by omega) (by omega)), gd_s (by omega) (by decide)]
    unfold fX6_count_162
    have e := ih (f + 1) g (by omega) (by omega)
    rw [show cn (fun i => tt (sM m 10 i)) (f + 1) = cn (fun i => tt (sM m 10 i)) f + n1 (tt (sM m 10 f)) from rfl, ← nI_add] at e
    rw [nI_1]
    by_cases hz : sM m 10 f = 0
    · rw [if_pos hz]
      rw [tt_0.mp hz] at e
      exact e
    · rw [if_neg hz]
      rw [show tt (sM m 10 f) = true from decide_eq_true hz] at e
      exact e
theorem out_X {x m : St_} (h : Inv_ x m) : ∀ d f g, f + d = sN x → d < g → fX5_countOut_4 x g (nI (cn (fun i => decide (0 < sM m 12 i)) f)) (nI f) = some (nI (cn (fun i => decide (0 < sM m 12 i)) (sN x))) := by
  obtain ⟨-, hb, hn⟩ := bnd_s h
  have hF := h.2.2.2.2.2.1
  intro d
  induction d with
  | zero =>
    intro f g hf hg
    obtain ⟨g, rfl⟩ : ∃ k, g = k + 1 := ⟨g - 1, by omega⟩
    show (if sS x 5 ≤ nI f then _ else _) = _
    rw [hb, if_pos (nI_le (by omega) (by omega)), show f = sN x by omega]
  | succ d ih =>
    intro f g hf hg
    obtain ⟨g, rfl⟩ : ∃ k, g = k + 1 := ⟨g - 1, by omega⟩
    show (if sS x 5 ≤ nI f then _ else bn_ _ _) = _
    rw [hb, if_neg (nI_ge (by omega) (by omega)), F_at h (by omega), bn_s]
    dsimp only
    unfold fX5_countOut_32 fX0_isOut
    have e := ih (f + 1) g (by omega) (by omega)
    rw [show cn (fun i => decide (0 < sM m 12 i)) (f + 1) = cn (fun i => decide (0 < sM m 12 i)) f + n1 (decide (0 < sM m 12 f)) from rfl, ← nI_add] at e
    rw [(hF f (by omega)).1.2.2.2.2.1, nI_1]
    by_cases hz : sM m 12 f ≤ 0
    · rw [if_pos hz, bn_s, if_pos rfl]
      rw [decide_eq_false (Int32.not_lt.mpr hz)] at e
      rw [show nI (cn (fun i => decide (0 < sM m 12 i)) f) + nI (n1 false) = nI (cn (fun i => decide (0 < sM m 12 i)) f) by rw [nI_add]; rfl] at e
      exact e
    · rw [if_neg hz, bn_s, if_neg (by decide)]
      rw [decide_eq_true (Int32.not_le.mp hz)] at e
      exact e
theorem out_M {x m : St_} (h : Inv_ x m) : ∀ d f g, f + d = sN x → d < g → fX6_count_174 m g (nI (cn (fun i => decide (0 < sM m 12 i)) f)) (nI f) = some (nI (cn (fun i => decide (0 < sM m 12 i)) (sN x))) := by
  obtain ⟨hb, -, hn⟩ := bnd_s h
  intro d
  induction d with
  | zero =>
    intro f g hf hg
    obtain ⟨g, rfl⟩ : ∃ k, g = k + 1 := ⟨g - 1, by omega⟩
    show (if sS m 2 ≤ nI f then _ else _) = _
    rw [hb, if_pos (nI_le (by omega) (by omega)), show f = sN x by omega]
  | succ d ih =>
    intro f g hf hg
    obtain ⟨g, rfl⟩ : ∃ k, g = k + 1 := ⟨g - 1, by omega⟩
    show (if sS m 2 ≤ nI f then _ else gd_ _ _ _) = _
    rw [hb, if_neg (nI_ge (by omega) (by omega)), gd_s (by omega) (by decide)]
    unfold fX6_count_197
    have e := ih (f + 1) g (by omega) (by omega)
    rw [show cn (fun i => decide (0 < sM m 12 i)) (f + 1) = cn (fun i => decide (0 < sM m 12 i)) f + n1 (decide (0 < sM m 12 f)) from rfl, ← nI_add] at e
    rw [nI_1]
    by_cases hz : sM m 12 f ≤ 0
    · rw [if_pos hz]
      rw [decide_eq_false (Int32.not_lt.mpr hz)] at e
      exact e
    · rw [if_neg hz]
      rw [decide_eq_true (Int32.not_le.mp hz)] at e
      exact e
theorem T_look {σx σm : St_} (h : Inv_ σx σm) (x1 x2 : Int32) : ∃ r, fX5_look x1 x2 σx = some r ∧ fX6_look x1 x2 σm = some r := by
  unfold fX5_look fX6_look
  have hn := h.1.1
  have hF := h.2.2.2.2.2.1
  rcases F_ix h x1 with ⟨j, hj, rfl⟩ | ⟨e1, e2⟩
  · rw [F_at h hj, (F_in h hj).2, bn_s, bn_s]
    dsimp only
    rw [if_neg (show ¬ (1 : Int32) = 0 by decide)]
    obtain ⟨⟨f0, f1, f2, f3, f4, f5, f6, f7⟩, hb, -⟩ := hF j hj
    have hj10 : j < 10 := by omega
    simp only [gd_s hj10 (by decide : 10 < 2 ^ 31), f0, f1, f2, f3, f4, f5, f6, f7, visitorCount_s h hj10, visitorsOf_s h hj10, (visits_eq h hj10).1, (visits_eq h hj10).2, bn_s]
    unfold fX5_oneIf
    repeat' first
      | exact ⟨_, rfl, rfl⟩
      | split
  · rw [F_no e1, e2]
    exact ⟨-1, rfl, rfl⟩
theorem ix_rng (x : Int32) (a n : Nat) (hn : n ≤ 8) (ha : a ≤ 20) : (∃ j, j < n ∧ x - nI a = nI j ∧ x = nI (a + j) ∧ fX6_lies x (nI a) (nI (a + n - 1)) = some 1) ∨ (fX5_isBelow (x - nI a) (nI n) = some 0 ∧ (0 < n → fX6_lies x (nI a) (nI (a + n - 1)) = some 0)) := by
  rcases pk_ix (x - nI a) (n := n) (by omega) with q | q | ⟨j, hj, e⟩
  all_goals first | skip
  · refine Or.inr ⟨isBelow_0 (Or.inl q), fun hn0 => ?_⟩
    unfold fX6_lies
    by_cases h1 : x < nI a
    · rw [if_pos h1]
    · rw [if_neg h1, if_pos]
      by_cases h2 : x < nI (a + n)
      · exact absurd q (by
          have hx0 : ¬ x < 0 := fun h => h1 (by
            rw [Int32.lt_iff_toInt_lt] at h ⊢
            rw [nI_toInt (by omega)]
            have z : (0 : Int32).toInt = 0 := by decide
            omega)
          obtain ⟨k, hk, rfl⟩ := nI_of hx0
          have hk1 : ¬ k < a := fun h => h1 ((nI_ltI (by omega) (by omega)).mpr h)
          rw [pk_sub (by omega)]
          exact nI_pos (by omega))
      · rw [Int32.lt_iff_toInt_lt] at h2 ⊢
        rw [nI_toInt (by omega)] at h2 ⊢
        omega
  · refine Or.inr ⟨isBelow_0 (Or.inr q), fun hn0 => ?_⟩
    unfold fX6_lies
    by_cases h1 : x < nI a
    · rw [if_pos h1]
    · rw [if_neg h1, if_pos]
      have hx0 : ¬ x < 0 := fun h => h1 (by
        rw [Int32.lt_iff_toInt_lt] at h ⊢
        rw [nI_toInt (by omega)]
        have z : (0 : Int32).toInt = 0 := by decide
        omega)
      obtain ⟨k, hk, rfl⟩ := nI_of hx0
      have hk1 : ¬ k < a := fun h => h1 ((nI_ltI (by omega) (by omega)).mpr h)
      rw [pk_sub (by omega), nI_leI (by omega) (by omega)] at q
      exact nI_lt (by omega) (by omega)
  · refine Or.inl ⟨j, hj, e, ?_, ?_⟩
    · have : x = nI j + nI a := by rw [← e]; simp
      rw [this, nI_add, Nat.add_comm]
    · have hx : x = nI (a + j) := by
        have : x = nI j + nI a := by rw [← e]; simp
        rw [this, nI_add, Nat.add_comm]
      rw [hx]
      exact lies_1 (by omega) (by omega) (by omega)
theorem T_count {σx σm : St_} (h : Inv_ σx σm) (x1 : Int32) : ∃ r, fX5_count x1 σx = some r ∧ fX6_count x1 σm = some r := by
  have hn := h.1.1
  obtain ⟨hb, hb2, -⟩ := bnd_s h
  obtain ⟨y, hy, hy1, hy2⟩ := h.2.1
  obtain ⟨hl1, hl2⟩ := h.2.2.1
  obtain ⟨t, ht, ht1, ht2, -⟩ := h.2.2.2.1
  obtain ⟨hr, -⟩ := h.2.2.2.2.1
  have hw := h.2.2.2.2.2.2.2.2.1
  unfold fX5_count fX6_count
  rcases ix_rng x1 10 6 (by decide) (by decide) with ⟨j, hj, e1, e2, e3⟩ | ⟨e1, e2⟩
  · have e1' : x1 - 10 = nI j := e1
    have e3' : fX6_lies x1 10 15 = some 1 := e3
    refine ⟨sM σm 5 j, ?_, ?_⟩
    · rw [e1', show (6 : Int32) = nI 6 from rfl, isBelow_1 hj (by decide), bn_s, if_neg (by decide)]
      unfold fX2_number
      rw [show (6 : Int32) = nI 6 from rfl, isBelow_1 hj (by decide), bn_s, if_neg (by decide), gd_s hj (by decide), bn_s, hr j hj]
    · rw [e3', bn_s, if_neg (by decide), e1', gd_s hj (by decide)]
  · have e1' : fX5_isBelow (x1 - 10) 6 = some 0 := e1
    have e2' : fX6_lies x1 10 15 = some 0 := e2 (by decide)
    rw [e1', e2', bn_s, bn_s, if_pos rfl, if_pos rfl]
    rcases ix_rng x1 20 8 (by decide) (by decide) with ⟨j, hj, e3, e4, e5⟩ | ⟨e3, e4⟩
    · have e3' : x1 - 20 = nI j := e3
      have e5' : fX6_lies x1 20 27 = some 1 := e5
      refine ⟨sM σm 9 j, ?_, ?_⟩
      · rw [e3', show (8 : Int32) = nI 8 from rfl, isBelow_1 hj (by decide), bn_s, if_neg (by decide), gd_s hj (by decide), hw j hj]
      · rw [e5', bn_s, if_neg (by decide), e3', gd_s hj (by decide)]
    · have e3' : fX5_isBelow (x1 - 20) 8 = some 0 := e3
      have e4' : fX6_lies x1 20 27 = some 0 := e4 (by decide)
      rw [e3', e4', bn_s, bn_s, if_pos rfl, if_pos rfl]
      have ss : fX5_countSeals σx = some (nI (cn (fun i => tt (sM σm 10 i)) (sN σx))) := seal_X h (sN σx) 0 FU_ (by omega) (by unfold FU_; omega)
      have sm' : fX6_count_139 σm FU_ 0 0 = some (nI (cn (fun i => tt (sM σm 10 i)) (sN σx))) := seal_M h (sN σx) 0 FU_ (by omega) (by unfold FU_; omega)
      have os : fX5_countOut σx = some (nI (cn (fun i => decide (0 < sM σm 12 i)) (sN σx))) := out_X h (sN σx) 0 FU_ (by omega) (by unfold FU_; omega)
      have om : fX6_count_174 σm FU_ 0 0 = some (nI (cn (fun i => decide (0 < sM σm 12 i)) (sN σx))) := out_M h (sN σx) 0 FU_ (by omega) (by unfold FU_; omega)
      unfold fX4_areLaid fX3_size
      rw [hl2, gz_ok hl1, bn_s, hb2, hb, hy1, hy2, (total_eq h).1, (total_eq h).2, ss, sm', os, om, ht1, ht2, bn_s, bn_s, bn_s, bn_s]
      unfold fX5_oneIf
      repeat' first
        | exact ⟨_, rfl, rfl⟩
        | split
