/-! trust on the reference's side -/
theorem uM_uA (m : St_) (k j : Nat) (F : Nat → Int32) (v : Int32) : uM (uA m k F) k j v = uA m k (upd F j v) := by
  have h : sM (uA m k F) k = F := if_pos rfl
  unfold uM
  rw [h]
  unfold uA
  have e : (fun a => if a = k then upd F j v else if a = k then F else m.2.1 a) = (fun a => if a = k then upd F j v else m.2.1 a) := by
    funext a
    by_cases ha : a = k
    · rw [if_pos ha, if_pos ha]
    · rw [if_neg ha, if_neg ha, if_neg ha]
  show (m.1, (fun a => if a = k then upd F j v else if a = k then F else m.2.1 a), m.2.2) = _
  rw [e]
theorem sM_A (m : St_) (k : Nat) (F : Nat → Int32) : sM (uA m k F) k = F := if_pos rfl
theorem sM_N (m : St_) {k a : Nat} (F : Nat → Int32) (h : a ≠ k) : sM (uA m k F) a = sM m a := if_neg h
theorem uA_self (m : St_) (k : Nat) : uA m k (sM m k) = m := by
  unfold uA sM
  have e : (fun j => if j = k then m.2.1 k else m.2.1 j) = m.2.1 := by
    funext j
    by_cases hj : j = k
    · rw [if_pos hj, hj]
    · rw [if_neg hj]
  rw [e]
/-- what the tie doesn't look at may change -/
theorem Inv_28 {x m : St_} (h : Inv_ x m) (F : Nat → Int32) : Inv_ x (uA m 28 F) := h
def lst (m : St_) (a : Nat) : Nat → Nat → Nat
  | 0, _ => 0
  | n + 1, i => if rc m a n i = true then lst m a n i else n + 1
theorem lst_s {m : St_} {a i : Nat} : ∀ n, rc m a n i = true → lst m a n i ≤ n ∧ rc m a (lst m a n i) i = true ∧ ∀ t, t < lst m a n i → rc m a t i = false
  | 0, h => ⟨Nat.le_refl 0, h, fun t ht => absurd ht (Nat.not_lt_zero t)⟩
  | n + 1, h => by
    show (if rc m a n i = true then lst m a n i else n + 1) ≤ n + 1 ∧ rc m a (if rc m a n i = true then lst m a n i else n + 1) i = true ∧ ∀ t, t < (if rc m a n i = true then lst m a n i else n + 1) → rc m a t i = false
    by_cases e : rc m a n i = true
    · rw [if_pos e]
      obtain ⟨h1, h2, h3⟩ := lst_s n e
      exact ⟨by omega, h2, h3⟩
    · rw [if_neg e]
      refine ⟨Nat.le_refl _, h, fun t ht => ?_⟩
      cases e2 : rc m a t i
      · rfl
      · exact absurd (by have := rc_mono e2 (n - t); rw [show t + (n - t) = n by omega] at this; exact this) e
def fr (m : St_) (a n i : Nat) : Int32 := if rc m a n i = true then nI (lst m a n i) else -1
/-- the row far in the midst of level n + 1, with the farms below v looked at -/
def mid (m : St_) (a n v i : Nat) : Int32 := if rc m a n i = true then nI (lst m a n i) else if (List.range v).any (fun u => decide (fr m a n u = nI n) && vou m u i) = true then nI (n + 1) else -1
theorem fr_ne {m : St_} {a n i : Nat} (hn : n < 100) : fr m a n i = -1 ↔ rc m a n i = false := by
  unfold fr
  cases e : rc m a n i
  · simp
  · simp only [if_true]
    obtain ⟨h1, -⟩ := lst_s n e
    constructor
    · intro q
      exact absurd q (fun q => nI_pos (n := lst m a n i) (by omega) (by rw [q]; decide))
    · intro q
      cases q
theorem any_succ (g : Nat → Bool) (v : Nat) : (List.range (v + 1)).any g = ((List.range v).any g || g v) := by
  rw [List.range_succ, List.any_append]
  simp
theorem mid_all {x m : St_} (h : Inv_ x m) {a n i : Nat} (hn : n < 20) (hi : i < 10) : mid m a n (sN x) i = fr m a (n + 1) i := by
  unfold mid
  by_cases e : rc m a n i = true
  · rw [if_pos e]
    unfold fr
    rw [if_pos (rc_up e)]
    show nI (lst m a n i) = nI (if rc m a n i = true then lst m a n i else n + 1)
    rw [if_pos e]
  · rw [if_neg e, show fr m a (n + 1) i = (if rc m a (n + 1) i = true then nI (lst m a (n + 1) i) else -1) from rfl]
    have key : ((List.range (sN x)).any (fun u => decide (fr m a n u = nI n) && vou m u i) = true) ↔ rc m a (n + 1) i = true := by
      rw [List.any_eq_true]
      constructor
      · rintro ⟨u, h1, h2⟩
        rw [Bool.and_eq_true] at h2
        have hu := List.mem_range.mp h1
        have hn10 := h.1.1
        have e2 : rc m a n u = true := by
          cases e3 : rc m a n u
          · have e4 := (fr_ne (m := m) (a := a) (n := n) (i := u) (by omega)).mpr e3
            rw [e4] at h2
            exact absurd (of_decide_eq_true h2.1) (fun q => nI_pos (n := n) (by omega) (by rw [← q]; decide))
          · rfl
        exact rc_step (by omega) e2 h2.2
      · intro h1
        rcases rc_inv h1 with q | ⟨u, hu, q1, q2⟩
        · exact absurd q e
        · refine ⟨u, List.mem_range.mpr (vou_n h hu hi q2).1, ?_⟩
          obtain ⟨l1, l2, -⟩ := lst_s n q1
          have : lst m a n u = n := by
            apply Classical.byContradiction
            intro hc
            have := rc_step hu l2 q2
            have := rc_mono this (n - (lst m a n u + 1))
            rw [show lst m a n u + 1 + (n - (lst m a n u + 1)) = n by omega] at this
            exact e this
          rw [Bool.and_eq_true]
          refine ⟨decide_eq_true ?_, q2⟩
          unfold fr
          rw [if_pos q1, this]
    by_cases e2 : rc m a (n + 1) i = true
    · rw [if_pos (key.mpr e2), if_pos e2]
      show nI (n + 1) = nI (if rc m a n i = true then lst m a n i else n + 1)
      rw [if_neg e]
    · rw [if_neg (fun q => e2 (key.mp q)), if_neg e2]
theorem tr91 {x m : St_} (h : Inv_ x m) {a n v : Nat} (hn : n < 20) (hv : v < sN x) (hfv : fr m a n v = nI n) (k52 : Int32 → Int32 → St_ → Option (Int32 × St_)) (k63 : Int32 → Int32 → Int32 → St_ → Option (Int32 × St_)) (b : Int32) : ∀ d f g (F : Nat → Int32), f + d = sN x → d < g → (∀ i, i < sN x → F i = if i < f then mid m a n (v + 1) i else mid m a n v i) → ∃ F', fX6_trust_91 k52 k63 g b (nI (n + 1)) (nI v) (nI f) (uA m 28 F) = k63 b (nI (n + 1)) (nI (v + 1)) (uA m 28 F') ∧ ∀ i, i < sN x → F' i = mid m a n (v + 1) i := by
  obtain ⟨hb, -, h10⟩ := bnd_s h
  intro d
  induction d with
  | zero =>
    intro f g F hf hg hI
    obtain ⟨g, rfl⟩ : ∃ k, g = k + 1 := ⟨g - 1, by omega⟩
    refine ⟨F, ?_, fun i hi => by rw [hI i hi, if_pos (by omega)]⟩
    show (if sS m 2 ≤ nI f then _ else _) = _
    rw [hb, if_pos (nI_le (by omega) (by omega))]
    unfold fX6_trust_136
    rw [nI_1]
  | succ d ih =>
    intro f g F hf hg hI
    obtain ⟨g, rfl⟩ : ∃ k, g = k + 1 := ⟨g - 1, by omega⟩
    show ∃ F', (if sS m 2 ≤ nI f then _ else gd_ _ _ _) = _ ∧ _
    rw [hb, if_neg (nI_ge (by omega) (by omega)), gd_s (by omega) (by decide), gd_s (by omega) (by decide), sM_A, uM_uA, isVouched_s (Inv_28 h F) (by omega) (by omega), bn_s]
    unfold fX6_trust_130
    rw [nI_1]
    have hvo : vou (uA m 28 F) v f = vou m v f := rfl
    rw [hvo]
    have e0 := hI f (by omega)
    rw [if_neg (by omega)] at e0
    have step : mid m a n (v + 1) f = if mid m a n v f = -1 then (if vou m v f = true then nI (n + 1) else -1) else mid m a n v f := by
      unfold mid
      by_cases e : rc m a n f = true
      · rw [if_pos e, if_pos e, if_neg]
        intro q
        obtain ⟨l1, -⟩ := lst_s n e
        exact nI_pos (n := lst m a n f) (by omega) (by rw [q]; decide)
      · rw [if_neg e, if_neg e, any_succ, hfv, decide_eq_true rfl, Bool.true_and]
        by_cases e2 : (List.range v).any (fun u => decide (fr m a n u = nI n) && vou m u f) = true
        · rw [e2, Bool.true_or, if_pos rfl, if_neg]
          intro q
          exact nI_pos (n := n + 1) (by omega) (by rw [q]; decide)
        · have e3 : (List.range v).any (fun u => decide (fr m a n u = nI n) && vou m u f) = false := by
            cases e4 : (List.range v).any (fun u => decide (fr m a n u = nI n) && vou m u f)
            · rfl
            · exact absurd e4 e2
          rw [e3, Bool.false_or, if_neg (show ¬ (false = true) by decide), if_pos rfl]
    have nxt : ∀ F2 : Nat → Int32, (∀ i, i ≠ f → F2 i = F i) → F2 f = mid m a n (v + 1) f → ∃ F', fX6_trust_91 k52 k63 g b (nI (n + 1)) (nI v) (nI (f + 1)) (uA m 28 F2) = k63 b (nI (n + 1)) (nI (v + 1)) (uA m 28 F') ∧ ∀ i, i < sN x → F' i = mid m a n (v + 1) i := by
      intro F2 h1 h2
      refine ih (f + 1) g F2 (by omega) (by omega) (fun i hi => ?_)
      by_cases hif : i = f
      · subst hif
        rw [if_pos (by omega), h2]
      · rw [h1 i hif, hI i hi]
        by_cases hlt : i < f
        · rw [if_pos hlt, if_pos (by omega)]
        · rw [if_neg hlt, if_neg (by omega)]
    rw [e0]
    by_cases hm : mid m a n v f = -1
    · rw [if_pos hm]
      rw [if_pos hm] at step
      cases hvf : vou m v f
      · rw [ite_f]
        rw [hvf, if_neg (by decide)] at step
        exact nxt F (fun i _ => rfl) (by rw [e0, hm, step])
      · rw [ite_t]
        rw [hvf, if_pos rfl] at step
        exact nxt (upd F f (nI (n + 1))) (fun i hi => if_neg hi) (by rw [step]; exact if_pos rfl)
    · rw [if_neg hm]
      rw [if_neg hm] at step
      exact nxt F (fun i _ => rfl) (by rw [e0, step])
theorem tr63 {x m : St_} (h : Inv_ x m) {a n : Nat} (hn : n < 20) (k52 : Int32 → Int32 → St_ → Option (Int32 × St_)) (b : Int32) : ∀ d v g (F : Nat → Int32), v + d = sN x → d < g → (∀ i, i < sN x → F i = mid m a n v i) → ∃ F', fX6_trust_63 k52 g b (nI (n + 1)) (nI v) (uA m 28 F) = k52 b (nI (n + 2)) (uA m 28 F') ∧ ∀ i, i < sN x → F' i = mid m a n (sN x) i := by
  obtain ⟨hb, -, h10⟩ := bnd_s h
  intro d
  induction d with
  | zero =>
    intro v g F hv hg hI
    obtain ⟨g, rfl⟩ : ∃ k, g = k + 1 := ⟨g - 1, by omega⟩
    refine ⟨F, ?_, fun i hi => by rw [hI i hi, show v = sN x by omega]⟩
    show (if sS m 2 ≤ nI v then _ else _) = _
    rw [hb, if_pos (nI_le (by omega) (by omega))]
    unfold fX6_trust_142
    rw [nI_1]
  | succ d ih =>
    intro v g F hv hg hI
    obtain ⟨g, rfl⟩ : ∃ k, g = k + 1 := ⟨g - 1, by omega⟩
    show ∃ F', (if sS m 2 ≤ nI v then _ else gd_ _ _ _) = _ ∧ _
    rw [hb, if_neg (nI_ge (by omega) (by omega)), gd_s (by omega) (by decide), sM_A]
    have e1 : nI (n + 1) - 1 = nI n := nI_pred n
    rw [e1, hI v (by omega)]
    have iff : mid m a n v v = nI n ↔ fr m a n v = nI n := by
      unfold mid fr
      by_cases e : rc m a n v = true
      · rw [if_pos e, if_pos e]
      · rw [if_neg e, if_neg e]
        constructor
        · intro q
          split at q
          · rw [nI_eq (by omega) (by omega)] at q
            omega
          · exact q
        · intro q
          exact absurd (q ▸ (by decide : (-1 : Int32) < 0)) (nI_pos (n := n) (by omega))
    by_cases hm : mid m a n v v = nI n
    · rw [if_pos hm]
      obtain ⟨F1, e2, e3⟩ := tr91 h hn (by omega) (iff.mp hm) k52 (fX6_trust_63 k52 g) b (sN x) 0 FU_ F (by omega) (by unfold FU_; omega) (fun i hi => by rw [if_neg (by omega)]; exact hI i hi)
      rw [show (0 : Int32) = nI 0 from rfl, e2]
      exact ih (v + 1) g F1 (by omega) (by omega) e3
    · rw [if_neg hm]
      unfold fX6_trust_136
      rw [nI_1]
      refine ih (v + 1) g F (by omega) (by omega) (fun i hi => ?_)
      rw [hI i hi]
      unfold mid
      rw [any_succ, decide_eq_false (fun q => hm (iff.mpr q)), Bool.false_and, Bool.or_false]
theorem tr52 {x m : St_} (h : Inv_ x m) {a b : Nat} (hb' : b < sN x) : ∀ d n g (F : Nat → Int32), n + 1 + d = sN x → d < g → (∀ i, i < sN x → F i = fr m a n i) → ∃ F', fX6_trust_52 g (nI b) (nI (n + 1)) (uA m 28 F) = some (fr m a (sN x - 1) b, uA m 28 F') := by
  obtain ⟨hb, -, h10⟩ := bnd_s h
  intro d
  induction d with
  | zero =>
    intro n g F hn hg hI
    obtain ⟨g, rfl⟩ : ∃ k, g = k + 1 := ⟨g - 1, by omega⟩
    refine ⟨F, ?_⟩
    show (if sS m 2 ≤ nI (n + 1) then _ else _) = _
    rw [hb, if_pos (nI_le (by omega) (by omega))]
    unfold fX6_trust_148
    rw [gd_s (by omega) (by decide), sM_A, hI b hb', show sN x - 1 = n by omega]
  | succ d ih =>
    intro n g F hn hg hI
    obtain ⟨g, rfl⟩ : ∃ k, g = k + 1 := ⟨g - 1, by omega⟩
    show ∃ F', (if sS m 2 ≤ nI (n + 1) then _ else _) = _
    rw [hb, if_neg (nI_ge (by omega) (by omega))]
    obtain ⟨F1, e1, e2⟩ := tr63 h (a := a) (n := n) (by omega) (fX6_trust_52 g) (nI b) (sN x) 0 FU_ F (by omega) (by unfold FU_; omega) (fun i hi => by
      rw [hI i hi]
      unfold fr mid
      by_cases e : rc m a n i = true
      · rw [if_pos e, if_pos e]
      · rw [if_neg e, if_neg e]
        rfl)
    rw [show (0 : Int32) = nI 0 from rfl, e1]
    exact ih (n + 1) g F1 (by omega) (by omega) (fun i hi => by rw [e2 i hi]; exact mid_all h (by omega) (by omega))
theorem tr20 {x m : St_} (h : Inv_ x m) {a : Nat} (ha : a < 100) (b : Int32) : ∀ d f g (F : Nat → Int32), f + d = sN x → d < g → (∀ i, i < f → F i = fr m a 0 i) → ∃ F', fX6_trust_20 g (nI a) b (nI f) (uA m 28 F) = fX6_trust_50 b (uA m 28 F') ∧ ∀ i, i < sN x → F' i = fr m a 0 i := by
  obtain ⟨hb, -, h10⟩ := bnd_s h
  intro d
  induction d with
  | zero =>
    intro f g F hf hg hI
    obtain ⟨g, rfl⟩ : ∃ k, g = k + 1 := ⟨g - 1, by omega⟩
    refine ⟨F, ?_, fun i hi => hI i (by omega)⟩
    show (if sS m 2 ≤ nI f then _ else _) = _
    rw [hb, if_pos (nI_le (by omega) (by omega))]
  | succ d ih =>
    intro f g F hf hg hI
    obtain ⟨g, rfl⟩ : ∃ k, g = k + 1 := ⟨g - 1, by omega⟩
    show ∃ F', (if sS m 2 ≤ nI f then _ else _) = _ ∧ _
    rw [hb, if_neg (nI_ge (by omega) (by omega))]
    unfold fX6_trust_43
    rw [gd_s (by omega) (by decide), gd_s (by omega) (by decide), uM_uA, uM_uA, nI_1]
    have nxt : ∀ z : Int32, z = fr m a 0 f → ∃ F', fX6_trust_20 g (nI a) b (nI (f + 1)) (uA m 28 (upd F f z)) = fX6_trust_50 b (uA m 28 F') ∧ ∀ i, i < sN x → F' i = fr m a 0 i := by
      intro z hz
      refine ih (f + 1) g _ (by omega) (by omega) (fun i hi => ?_)
      by_cases hif : i = f
      · subst hif
        exact (if_pos rfl).trans hz
      · exact (if_neg hif).trans (hI i (by omega))
    by_cases hfa : nI f = nI a
    · rw [if_pos hfa]
      refine nxt 0 ?_
      unfold fr
      rw [if_pos (show rc m a 0 f = true from decide_eq_true ((nI_eq (by omega) (by omega)).mp hfa))]
      rfl
    · rw [if_neg hfa]
      refine nxt (-1) ?_
      unfold fr
      rw [if_neg (show ¬ rc m a 0 f = true from fun q => hfa (by rw [show f = a from of_decide_eq_true q]))]
theorem T_trust {σx σm : St_} (h : Inv_ σx σm) (x1 x2 : Int32) : ∃ r σm2, fX5_trust x1 x2 σx = some r ∧ fX6_trust x1 x2 σm = some (r, σm2) ∧ Inv_ σx σm2 := by
  have hn := h.1.1
  unfold fX5_trust fX6_trust
  rcases FF h x1 x2 with ⟨i, j, hi, hj, rfl, rfl, e1, e2, e3⟩ | ⟨e1, e2 | ⟨e2, e3⟩⟩
  · rw [e1, bn_s, if_neg (by decide), e2, bn_s, if_neg (by decide), e3, bn_s, if_neg (by decide)]
    obtain ⟨r, k1, k2⟩ := tru_X h (a := i) (b := j) (by omega) 10 0 FU_ (1 <<< (nI i &&& 31)) (by decide) (by decide) (fun q hq => by
      rw [b_one i (by omega) hq]
      show _ = (decide (q < 10) && decide (q = i))
      by_cases hqi : q = i
      · subst hqi
        rw [decide_eq_true (by omega : q < 10)]
        simp
      · simp [hqi]) (fun t ht => absurd ht (Nat.not_lt_zero t))
    obtain ⟨F1, e4, e5⟩ := tr20 h (a := i) (by omega) (nI j) (sN σx) 0 FU_ (sM σm 28) (by omega) (by unfold FU_; omega) (fun q hq => absurd hq (Nat.not_lt_zero q))
    obtain ⟨F2, e6⟩ := tr52 h (a := i) hj (sN σx - 1) 0 FU_ F1 (by omega) (by unfold FU_; omega) e5
    have e4' : fX6_trust_20 FU_ (nI i) (nI j) 0 σm = fX6_trust_50 (nI j) (uA σm 28 F1) := by rw [← e4, uA_self]; rfl
    refine ⟨r, uA σm 28 F2, k1, ?_, Inv_28 h F2⟩
    rw [e4']
    unfold fX6_trust_50
    refine Eq.trans e6 ?_
    rcases k2 with ⟨z, hz, rfl, hz1, hz2⟩ | ⟨rfl, hno⟩
    · have hc := rc_count h hi (b := j) (by omega) z hz1 hz2
      have hup : rc σm i (sN σx - 1) j = true := by
        have := rc_mono hz1 (sN σx - 1 - z)
        rw [show z + (sN σx - 1 - z) = sN σx - 1 by omega] at this
        exact this
      obtain ⟨l1, l2, l3⟩ := lst_s _ hup
      have : lst σm i (sN σx - 1) j = z := by
        rcases Nat.lt_trichotomy (lst σm i (sN σx - 1) j) z with q | q | q
        · rw [hz2 _ q] at l2
          cases l2
        · exact q
        · rw [l3 z q] at hz1
          cases hz1
      unfold fr
      rw [if_pos hup, this]
    · unfold fr
      rw [if_neg (by rw [hno (sN σx - 1) (by omega)]; decide)]
  · exact ⟨-1, σm, by rw [e1]; rfl, by rw [e2]; rfl, h⟩
  · exact ⟨-1, σm, by rw [e1]; rfl, by rw [e2, bn_s, if_neg (by decide), e3]; rfl, h⟩
