/-! THE READERS: both sides answer alike -/
theorem FF {x m : St_} (h : Inv_ x m) (a b : Int32) : (∃ i j, i < sN x ∧ j < sN x ∧ a = nI i ∧ b = nI j ∧ fX5_areFarms a b x = some 1 ∧ fX6_isFarm a m = some 1 ∧ fX6_isFarm b m = some 1) ∨ (fX5_areFarms a b x = some 0 ∧ (fX6_isFarm a m = some 0 ∨ (fX6_isFarm a m = some 1 ∧ fX6_isFarm b m = some 0))) := by
  rcases F_ix h a with ⟨i, hi, rfl⟩ | ⟨h1, h2⟩
  · rcases F_ix h b with ⟨j, hj, rfl⟩ | ⟨h3, h4⟩
    · refine Or.inl ⟨i, j, hi, hj, rfl, rfl, ?_, (F_in h hi).2, (F_in h hj).2⟩
      unfold fX5_areFarms
      rw [(F_in h hi).1, bn_s, if_neg (by decide), (F_in h hj).1, bn_s, if_neg (by decide)]
    · refine Or.inr ⟨?_, Or.inr ⟨(F_in h hi).2, h4⟩⟩
      unfold fX5_areFarms
      rw [(F_in h hi).1, bn_s, if_neg (by decide), h3, bn_s, if_pos rfl]
  · refine Or.inr ⟨?_, Or.inl h2⟩
    unfold fX5_areFarms
    rw [h1, bn_s, if_pos rfl]
/-- v is barred from f -/
def bar (m : St_) (v f : Nat) : Bool := decide (sM m 7 v = sM m 7 f) || (tt (sM m 16 (10 * v + f)) || (tt (sM m 16 (10 * f + v)) || tt (sM m 18 (10 * v + f))))
theorem bar_M (m : St_) {v f : Nat} (hv : v < 10) (hf : f < 10) : fX6_isBarred (nI v) (nI f) m = some (nI (n1 (bar m v f))) := by
  unfold fX6_isBarred fX6_isBarred_57 bar
  rw [gd_s hv (by decide), gd_s hf (by decide)]
  by_cases h1 : sM m 7 v = sM m 7 f
  · rw [if_pos h1, decide_eq_true h1, Bool.true_or]
    rfl
  · rw [if_neg h1, decide_eq_false h1, Bool.false_or, ix_10, gd_s (by omega) (by decide)]
    by_cases h2 : sM m 16 (10 * v + f) = 0
    · rw [if_pos h2, tt_0.mp h2, Bool.false_or, ix_10, gd_s (by omega) (by decide)]
      by_cases h3 : sM m 16 (10 * f + v) = 0
      · rw [if_pos h3, tt_0.mp h3, Bool.false_or, gd_s (by omega) (by decide)]
        by_cases h4 : sM m 18 (10 * v + f) = 0
        · rw [if_pos h4, tt_0.mp h4]
          rfl
        · rw [if_neg h4, show tt (sM m 18 (10 * v + f)) = true from decide_eq_true h4]
          rfl
      · rw [if_neg h3, show tt (sM m 16 (10 * f + v)) = true from decide_eq_true h3]
        rfl
    · rw [if_neg h2, show tt (sM m 16 (10 * v + f)) = true from decide_eq_true h2]
      rfl
theorem bar_X {x m : St_} (h : Inv_ x m) {v f : Nat} (hv : v < sN x) (hf : f < sN x) : fX5_isBarred (nI v) (nI f) x = some (nI (n1 (bar m v f))) := by
  have hn := h.1.1
  have hF := h.2.2.2.2.2.1
  have hB := h.2.2.2.2.2.2.2.1
  have hW := h.2.2.2.2.2.2.2.2.2.2.2.1
  have k1 : fX5_areKin (nI v) (nI f) x = some (nI (n1 (decide (sM m 7 v = sM m 7 f)))) := by
    unfold fX5_areKin
    rw [F_at h hv, bn_s]
    dsimp only
    rw [F_at h hf, bn_s]
    dsimp only
    rw [(hF v hv).1.1, (hF f hf).1.1]
    by_cases e : sM m 7 v = sM m 7 f
    · rw [if_pos e, decide_eq_true e]
      rfl
    · rw [if_neg e, decide_eq_false e]
      rfl
  have k2 : ∀ a b, a < 10 → b < 10 → fX5_buysFrom (nI a) (nI b) x = some (nI (n1 (tt (sM m 16 (10 * a + b))))) := by
    intro a b ha hb
    unfold fX5_buysFrom
    rw [gd_s ha (by decide), hasBit_s _ (by omega), bn_s, gz_n1, (hB a b ha hb).2]
  have k3 : fX4_wasVisitor (nI v) (nI f) x = some (nI (n1 (tt (sM m 18 (10 * v + f))))) := by
    unfold fX4_wasVisitor
    rw [gd_s (by omega) (by decide), hasBit_s _ (by omega), bn_s, gz_n1, (hW v f (by omega) (by omega)).2]
  unfold fX5_isBarred fX5_isBarred_39 bar
  rw [k1, bn_s, k2 v f (by omega) (by omega), k2 f v (by omega) (by omega), k3]
  cases decide (sM m 7 v = sM m 7 f) <;> cases tt (sM m 16 (10 * v + f)) <;> cases tt (sM m 16 (10 * f + v)) <;> cases tt (sM m 18 (10 * v + f)) <;> rfl
theorem T_barred {σx σm : St_} (h : Inv_ σx σm) (x1 x2 : Int32) : ∃ r, fX5_barred x1 x2 σx = some r ∧ fX6_barred x1 x2 σm = some r := by
  unfold fX5_barred fX6_barred fX6_barred_16
  have hn := h.1.1
  rcases FF h x1 x2 with ⟨i, j, hi, hj, rfl, rfl, e1, e2, e3⟩ | ⟨e1, e2 | ⟨e2, e3⟩⟩
  · refine ⟨nI (n1 (bar σm i j)), ?_, ?_⟩
    · rw [e1, bn_s, if_neg (by decide), bar_X h hi hj, bn_s, oneIf_s]
      rfl
    · rw [e2, bn_s, if_neg (by decide), e3, bn_s, if_neg (by decide), bar_M σm (by omega) (by omega), bn_s]
      cases bar σm i j <;> rfl
  · exact ⟨-1, by rw [e1]; rfl, by rw [e2]; rfl⟩
  · exact ⟨-1, by rw [e1]; rfl, by rw [e2, bn_s, if_neg (by decide), e3]; rfl⟩
theorem vis_n {x m : St_} (h : Inv_ x m) {v f : Nat} (hv : v < 10) (hf : f < 10) (hn : sN x ≤ v ∨ sN x ≤ f) : vis m v f = false := by
  have hV := h.2.2.2.2.2.2.2.2.2.2.1
  cases e : vis m v f
  · rfl
  · have := (hV v f hv hf).2 e
    omega
theorem bnd_s {x m : St_} (h : Inv_ x m) : sS m 2 = nI (sN x) ∧ sS x 5 = nI (sN x) ∧ sN x ≤ 10 := ⟨h.1.2.2, h.1.2.1, h.1.1⟩
theorem at_tail {x m : St_} (h : Inv_ x m) {f : Nat} (hf : f < 10) (i : Int32) : ∀ d v g (c : Int32), v + d = 10 → sN x ≤ v → d < g → fX4_visitorAt_5 x g (nI f) i c (nI v) = some (-1) := by
  intro d
  induction d with
  | zero =>
    intro v g c hv hn hg
    obtain ⟨g, rfl⟩ : ∃ k, g = k + 1 := ⟨g - 1, by omega⟩
    show (if (10 : Int32) ≤ nI v then _ else _) = _
    rw [if_pos (le_10 (v := v) (by omega) (by omega))]
  | succ d ih =>
    intro v g c hv hn hg
    obtain ⟨g, rfl⟩ : ∃ k, g = k + 1 := ⟨g - 1, by omega⟩
    show (if (10 : Int32) ≤ nI v then _ else bn_ _ _) = _
    rw [if_neg (nle_10 (v := v) (by omega)), isVisitor_s h (by omega) hf, bn_s, vis_n h (by omega) hf (Or.inl hn), ite_f]
    unfold fX4_visitorAt_33
    rw [nI_1]
    exact ih (v + 1) g c (by omega) (by omega) (by omega)
theorem at_eq {x m : St_} (h : Inv_ x m) {f : Nat} (hf : f < 10) (i : Int32) : ∀ d v g1 g2 (c : Int32), v + d = sN x → 10 - v < g1 → d < g2 → fX4_visitorAt_5 x g1 (nI f) i c (nI v) = fX6_visitor_19 m g2 (nI f) i c (nI v) := by
  obtain ⟨hb, -, hn⟩ := bnd_s h
  intro d
  induction d with
  | zero =>
    intro v g1 g2 c hv h1 h2
    obtain ⟨g2, rfl⟩ : ∃ k, g2 = k + 1 := ⟨g2 - 1, by omega⟩
    rw [at_tail h hf i (10 - v) v g1 c (by omega) (by omega) h1]
    show _ = (if sS m 2 ≤ nI v then _ else _)
    rw [hb, if_pos (nI_le (by omega) (by omega))]
  | succ d ih =>
    intro v g1 g2 c hv h1 h2
    obtain ⟨g1, rfl⟩ : ∃ k, g1 = k + 1 := ⟨g1 - 1, by omega⟩
    obtain ⟨g2, rfl⟩ : ∃ k, g2 = k + 1 := ⟨g2 - 1, by omega⟩
    show (if (10 : Int32) ≤ nI v then _ else bn_ _ _) = (if sS m 2 ≤ nI v then _ else bn_ _ _)
    rw [if_neg (nle_10 (v := v) (by omega)), hb, if_neg (nI_ge (by omega) (by omega)), isVisitor_s h (by omega) hf, bn_s, isVisit_s h (by omega) hf, bn_s]
    unfold fX4_visitorAt_33 fX6_visitor_52
    rw [nI_1]
    have e := fun c' => ih (v + 1) g1 g2 c' (by omega) (by omega) (by omega)
    rw [e c, e (c + 1)]
theorem at_neg {x m : St_} (h : Inv_ x m) {f : Nat} (hf : f < 10) {i : Int32} (hi : i < 0) : ∀ d v g k, v + d = 10 → k ≤ v → d < g → fX4_visitorAt_5 x g (nI f) i (nI k) (nI v) = some (-1) := by
  intro d
  induction d with
  | zero =>
    intro v g k hv hk hg
    obtain ⟨g, rfl⟩ : ∃ k, g = k + 1 := ⟨g - 1, by omega⟩
    show (if (10 : Int32) ≤ nI v then _ else _) = _
    rw [if_pos (le_10 (v := v) (by omega) (by omega))]
  | succ d ih =>
    intro v g k hv hk hg
    obtain ⟨g, rfl⟩ : ∃ k, g = k + 1 := ⟨g - 1, by omega⟩
    show (if (10 : Int32) ≤ nI v then _ else bn_ _ _) = _
    rw [if_neg (nle_10 (v := v) (by omega)), isVisitor_s h (by omega) hf, bn_s]
    unfold fX4_visitorAt_33
    have hne : ¬ nI k = i := fun e => nI_pos (n := k) (by omega) (e ▸ hi)
    rw [if_neg hne, nI_1, nI_1, ih (v + 1) g k (by omega) (by omega) (by omega), ih (v + 1) g (k + 1) (by omega) (by omega) (by omega)]
    split <;> rfl
theorem at_some {x m : St_} (h : Inv_ x m) {f : Nat} (hf : f < 10) (i : Int32) : ∀ d v g (c : Int32), v + d = 10 → d < g → ∃ r, fX4_visitorAt_5 x g (nI f) i c (nI v) = some r := by
  intro d
  induction d with
  | zero =>
    intro v g c hv hg
    obtain ⟨g, rfl⟩ : ∃ k, g = k + 1 := ⟨g - 1, by omega⟩
    refine ⟨-1, ?_⟩
    show (if (10 : Int32) ≤ nI v then _ else _) = _
    rw [if_pos (le_10 (v := v) (by omega) (by omega))]
  | succ d ih =>
    intro v g c hv hg
    obtain ⟨g, rfl⟩ : ∃ k, g = k + 1 := ⟨g - 1, by omega⟩
    show ∃ r, (if (10 : Int32) ≤ nI v then _ else bn_ _ _) = some r
    rw [if_neg (nle_10 (v := v) (by omega)), isVisitor_s h (by omega) hf, bn_s]
    unfold fX4_visitorAt_33
    rw [nI_1]
    obtain ⟨r1, e1⟩ := ih (v + 1) g c (by omega) (by omega)
    obtain ⟨r2, e2⟩ := ih (v + 1) g (c + 1) (by omega) (by omega)
    rw [e1, e2]
    split
    · exact ⟨r1, rfl⟩
    · split
      · exact ⟨nI v, rfl⟩
      · exact ⟨r2, rfl⟩
theorem T_visitor {σx σm : St_} (h : Inv_ σx σm) (x1 x2 : Int32) : ∃ r, fX5_visitor x1 x2 σx = some r ∧ fX6_visitor x1 x2 σm = some r := by
  unfold fX5_visitor fX6_visitor fX4_visitorAt
  have hn := h.1.1
  rcases F_ix h x1 with ⟨j, hj, rfl⟩ | ⟨e1, e2⟩
  · rw [(F_in h hj).1, (F_in h hj).2, bn_s, bn_s, if_neg (by decide), if_neg (by decide)]
    obtain ⟨r, hr⟩ := at_some h (f := j) (by omega) x2 10 0 FU_ 0 (by decide) (by decide)
    refine ⟨r, by rw [show (0 : Int32) = nI 0 from rfl] at hr ⊢; rw [hr]; rfl, ?_⟩
    by_cases h0 : 0 ≤ x2
    · rw [if_pos h0]
      have e := at_eq h (f := j) (by omega) x2 (sN σx) 0 FU_ FU_ 0 (by omega) (by decide) (by unfold FU_; omega)
      exact e.symm.trans hr
    · rw [if_neg h0]
      have hneg : x2 < 0 := Int32.not_le.mp h0
      have e := at_neg h (f := j) (by omega) hneg 10 0 FU_ 0 (by decide) (by decide) (by decide)
      exact (e.symm.trans hr)
  · exact ⟨-1, by rw [e1]; rfl, by rw [e2]; rfl⟩
