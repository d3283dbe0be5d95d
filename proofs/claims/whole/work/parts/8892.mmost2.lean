theorem pre_row (P : Mx) {a b : Nat} (ha : a < 10) (hb : b < 10) {v : Nat} (hv : v < 10) : row (pre P (10 * a + b + 1)) v = row (pre P (10 * a + b)) v + if v = a then n1 (P a b) else 0 := by
  rw [row_c (M' := up (pre P (10 * a + b)) a b (P a b)) (fun f hf => pre_up P ha hb v f hv hf)]
  have z : pre P (10 * a + b) a b = false := by
    unfold pre
    rw [decide_eq_false (by omega), Bool.and_false]
  by_cases e : v = a
  · have h := row_up (pre P (10 * a + b)) (v := a) hb (P a b)
    rw [z, show n1 false = 0 from rfl] at h
    rw [if_pos e, e]
    omega
  · rw [if_neg e, row_up' _ e]
    omega
theorem pre_col (P : Mx) {a b : Nat} (ha : a < 10) (hb : b < 10) {f : Nat} (hf : f < 10) : col (pre P (10 * a + b + 1)) f = col (pre P (10 * a + b)) f + if f = b then n1 (P a b) else 0 := by
  rw [col_c (M' := up (pre P (10 * a + b)) a b (P a b)) (fun v hv => pre_up P ha hb v f hv hf)]
  have z : pre P (10 * a + b) a b = false := by
    unfold pre
    rw [decide_eq_false (by omega), Bool.and_false]
  by_cases e : f = b
  · have h := col_up (pre P (10 * a + b)) (f := b) ha (P a b)
    rw [z, show n1 false = 0 from rfl] at h
    rw [if_pos e, e]
    omega
  · rw [if_neg e, col_up' _ e]
    omega
theorem pre_tot (P : Mx) {a b : Nat} (ha : a < 10) (hb : b < 10) : tot (pre P (10 * a + b + 1)) = tot (pre P (10 * a + b)) + n1 (P a b) := by
  rw [tot_c (pre_up P ha hb)]
  have z : pre P (10 * a + b) a b = false := by
    unfold pre
    rw [decide_eq_false (by omega), Bool.and_false]
  have h := tot_up (pre P (10 * a + b)) ha hb (P a b)
  rw [z, show n1 false = 0 from rfl] at h
  omega
theorem m32 {P O : Mx} {n N V : Nat} : ∀ d fu k σ, k + d = 100 → d < fu → Gp σ P O n N V → (∀ j, j < k → sM σ 22 j = 0) → (∀ v, v < 10 → sM σ 23 v = nI (row (pre P k) v)) → (∀ f, f < 10 → sM σ 24 f = nI (col (pre P k) f)) → ∃ σ', Fm σ σ' ∧ Gc σ' O P n N V ∧ fX6_most_32 fu (nI (tot (pre P k))) (nI k) σ = fX6_most_92 (nI (tot P)) σ'
  | d, 0, _, _, _, h, _, _, _, _ => absurd h (Nat.not_lt_zero d)
  | 0, fu + 1, k, σ, hk, _, hG, h22, h23, h24 => by
    have e100 : k = 100 := by omega
    subst e100
    have ep : ∀ v f, v < 10 → f < 10 → pre P 100 v f = P v f := by
      intro v f hv hf
      unfold pre
      rw [decide_eq_true (by omega), Bool.and_true]
    obtain ⟨g1, g20, g21, gO, gP⟩ := hG
    refine ⟨σ, Fm_r σ, ⟨g1, g21, ?_, ?_, ?_, gO⟩, ?_⟩
    · intro v f hv hf
      rw [h22 _ (by omega)]
      cases ho : O v f
      · rfl
      · rw [gP v f ho]
        rfl
    · intro v hv
      rw [h23 v hv, row_c (fun f hf => ep v f hv hf)]
    · intro f hf
      rw [h24 f hf, col_c (fun v hv => ep v f hv hf)]
    · rw [tot_c ep]
      show (if 100 ≤ nI 100 then fX6_most_92 (nI (tot P)) σ else _) = _
      rw [if_pos (le_100 (by decide) (by decide))]
  | d + 1, fu + 1, k, σ, hk, hfu, hG, h22, h23, h24 => by
    obtain ⟨a, b, ha, hb, ek⟩ : ∃ a b, a < 10 ∧ b < 10 ∧ k = 10 * a + b := ⟨k / 10, k % 10, by omega, by omega, by omega⟩
    have hG' := hG
    obtain ⟨g1, g20, g21, gO, gP⟩ := hG
    have eq : fX6_most_32 (fu + 1) (nI (tot (pre P k))) (nI k) σ = (if 100 ≤ nI k then fX6_most_92 (nI (tot (pre P k))) σ else (gd_ (nI k) 100 fun j4 => (gd_ (nI k) 100 fun j5 => (if (sM (uM σ 22 j4 (vp_nar .boolean 0)) 20 j5) = 0 then fX6_most_32 fu (nI (tot (pre P k))) (nI k + 1) (uM σ 22 j4 (vp_nar .boolean 0)) else (gd_ (nI k / nI 10) 10 fun j6 => (gd_ (nI k / nI 10) 10 fun j7 => (gd_ (nI k - nI k / nI 10 * nI 10) 10 fun j8 => (gd_ (nI k - nI k / nI 10 * nI 10) 10 fun j9 => fX6_most_32 fu (nI (tot (pre P k)) + 1) (nI k + 1) (uM (uM (uM σ 22 j4 (vp_nar .boolean 0)) 23 j7 ((sM (uM σ 22 j4 (vp_nar .boolean 0)) 23 j6) + 1)) 24 j9 ((sM (uM (uM σ 22 j4 (vp_nar .boolean 0)) 23 j7 ((sM (uM σ 22 j4 (vp_nar .boolean 0)) 23 j6) + 1)) 24 j8) + 1)))))))))) := rfl
    have e20 : sM (uM σ 22 k 0) 20 k = nI (n1 (P a b)) := by
      show sM σ 20 k = _
      rw [ek]
      exact g20 a b ha hb
    have z22 : ∀ j, j < k + 1 → upd (sM σ 22) k 0 j = 0 := by
      intro j hj
      by_cases e : j = k
      · rw [e, upd_s]
      · rw [upd_n _ _ e]; exact h22 j (by omega)
    rw [if_neg (nle_100 (by omega)), gd_s (by omega) (by decide), gd_s (by omega) (by decide), nar0, e20, pk_rem (by omega) (by decide) (by decide), pk_div (by omega) (by decide) (by decide), show k / 10 = a by omega, show k % 10 = b by omega, ite_n, gd_s ha (by decide), gd_s ha (by decide), gd_s hb (by decide), gd_s hb (by decide)] at eq
    cases hP : P a b
    · rw [hP, if_neg (by decide), nI_1] at eq
      obtain ⟨σ', r1, r2, r3⟩ := m32 d fu (k + 1) (uM σ 22 k 0) (by omega) (by omega) hG' z22 (by
          intro v hv
          rw [ek, pre_row P ha hb hv, hP, show n1 false = 0 from rfl, ite_self, Nat.add_zero, ← ek]
          exact h23 v hv) (by
          intro f hf
          rw [ek, pre_col P ha hb hf, hP, show n1 false = 0 from rfl, ite_self, Nat.add_zero, ← ek]
          exact h24 f hf)
      have et : tot (pre P (k + 1)) = tot (pre P k) := by
        rw [ek, pre_tot P ha hb, hP]
        rfl
      rw [et] at r3
      exact ⟨σ', Fm_t (Fm_A σ (k := 22) (by decide) _) r1, r2, eq.trans r3⟩
    · have et : tot (pre P (k + 1)) = tot (pre P k) + 1 := by
        rw [ek, pre_tot P ha hb, hP]
        rfl
      rw [hP, if_pos rfl, nI_1, nI_1, ← et] at eq
      obtain ⟨σ', r1, r2, r3⟩ := m32 d fu (k + 1) (uM (uM (uM σ 22 k 0) 23 a (sM (uM σ 22 k 0) 23 a + 1)) 24 b (sM (uM (uM σ 22 k 0) 23 a (sM (uM σ 22 k 0) 23 a + 1)) 24 b + 1)) (by omega) (by omega) hG' z22 (by
          intro v hv
          show upd (sM σ 23) a (sM σ 23 a + 1) v = _
          rw [ek, pre_row P ha hb hv, hP, ← ek]
          by_cases e : v = a
          · rw [e, upd_s, if_pos rfl, h23 a ha, nI_1]
            rfl
          · rw [upd_n _ _ e, if_neg e]
            exact h23 v hv) (by
          intro f hf
          show upd (sM σ 24) b (sM σ 24 b + 1) f = _
          rw [ek, pre_col P ha hb hf, hP, ← ek]
          by_cases e : f = b
          · rw [e, upd_s, if_pos rfl, h24 b hb, nI_1]
            rfl
          · rw [upd_n _ _ e, if_neg e]
            exact h24 f hf)
      exact ⟨σ', Fm_t (Fm_t (Fm_t (Fm_A σ (k := 22) (by decide) _) (Fm_A _ (k := 23) (by decide) _)) (Fm_A _ (k := 24) (by decide) _)) r1, r2, eq.trans r3⟩
theorem m4 (x1 : Int32) : ∀ d fu g σ, g + d = 10 → d < fu → (∀ j, j < g → sM σ 23 j = 0 ∧ sM σ 24 j = 0) → ∃ σ', Fm σ σ' ∧ (∀ j, j < 10 → sM σ' 23 j = 0 ∧ sM σ' 24 j = 0) ∧ fX6_most_4 fu x1 (nI g) σ = fX6_most_30 x1 σ'
  | d, 0, _, _, _, h, _ => absurd h (Nat.not_lt_zero d)
  | 0, fu + 1, g, σ, hg, _, hj => by
    refine ⟨σ, Fm_r σ, fun j h => hj j (by omega), ?_⟩
    show (if 10 ≤ nI g then fX6_most_30 x1 σ else _) = _
    rw [if_pos (le_10 (by omega) (by omega))]
  | d + 1, fu + 1, g, σ, hg, hfu, hj => by
    have eq : fX6_most_4 (fu + 1) x1 (nI g) σ = (if 10 ≤ nI g then fX6_most_30  x1 σ else (gd_ (nI g) 10 fun j1 => (gd_ (nI g) 10 fun j2 => fX6_most_4  fu x1 (nI g + 1) (uM (uM σ 23 j1 0) 24 j2 0)))) := rfl
    rw [if_neg (nle_10 (by omega)), gd_s (by omega) (by decide), gd_s (by omega) (by decide), nI_1] at eq
    obtain ⟨σ', r1, r2, r3⟩ := m4 x1 d fu (g + 1) (uM (uM σ 23 g 0) 24 g 0) (by omega) (by omega) (by
      intro j h
      show upd (sM σ 23) g 0 j = 0 ∧ upd (sM σ 24) g 0 j = 0
      by_cases e : j = g
      · rw [e, upd_s, upd_s]; exact ⟨rfl, rfl⟩
      · rw [upd_n _ _ e, upd_n _ _ e]; exact hj j (by omega))
    exact ⟨σ', Fm_t (Fm_t (Fm_A σ (k := 23) (by decide) _) (Fm_A _ (k := 24) (by decide) _)) r1, r2, eq.trans r3⟩
theorem Gp_fr {σ σ' : St_} {P O : Mx} {n N V : Nat} (f : Fm σ σ') (h : Gp σ P O n N V) : Gp σ' P O n N V := by
  obtain ⟨⟨h1, h2, h3, h4, h5, h6⟩, g20, g21, gO, gP⟩ := h
  refine ⟨⟨(congrFun f.1 2).trans h1, h2, ?_, ?_, h5, h6⟩, ?_, ?_, gO, gP⟩
  · rw [f.2.2 5 (by decide)]; exact h3
  · rw [f.2.2 5 (by decide)]; exact h4
  · rw [f.2.2 20 (by decide)]; exact g20
  · rw [f.2.2 21 (by decide)]; exact g21
/-- most: the most visits of a plan that keeps the fixed pairs and takes open ones, or -1 -/
theorem most_s {σ : St_} {P O : Mx} {n N V : Nat} (h : Gp σ P O n N V) : ∃ r σ', fX6_most σ = some (r, σ') ∧ Fm σ σ' ∧ ((r = -1 ∧ ∀ M', (∀ v f, v < 10 → f < 10 → O v f = false → M' v f = P v f) → ¬ Fe V N M') ∨ (∃ M, r = nI (tot M) ∧ Fe V N M ∧ (∀ v f, O v f = false → M v f = P v f) ∧ Mo V N O P M)) := by
  obtain ⟨σ1, a1, a2, a3⟩ := m4 0 10 FU_ 0 σ rfl (by decide) (fun j hj => absurd hj (Nat.not_lt_zero j))
  have p0 : ∀ v f, pre P 0 v f = false := fun v f => by
    unfold pre
    rw [decide_eq_false (Nat.not_lt_zero _), Bool.and_false]
  obtain ⟨σ2, b1, b2, b3⟩ := m32 100 FU_ 0 σ1 rfl (by decide) (Gp_fr a1 h) (fun j hj => absurd hj (Nat.not_lt_zero j)) (by
      intro v hv
      rw [(a2 v hv).1, show row (pre P 0) v = 0 from cn_none 10 (fun f _ => p0 v f)]
      rfl) (by
      intro f hf
      rw [(a2 f hf).2, show col (pre P 0) f = 0 from cn_none 10 (fun v _ => p0 v f)]
      rfl)
  rw [tot_none (fun v f _ _ => p0 v f)] at b3
  have e0 : fX6_most σ = fX6_most_94 FU_ (nI (tot P)) (nI 0) σ2 := by
    show fX6_most_4 FU_ 0 (nI 0) σ = _
    rw [a3]
    show fX6_most_32 FU_ (nI 0) (nI 0) σ1 = _
    rw [b3]
    rfl
  rcases m94 σ2 b2 10 FU_ 0 rfl (by decide) (fun a ha => absurd ha (Nat.not_lt_zero a)) with ⟨c1, c2⟩ | ⟨c1, c2⟩
  · obtain ⟨σ', M', d1, d2, d3, d4, d5⟩ := m138 (M0 := P) FU_ σ2 P b2 c2 (fun _ _ _ => rfl) (by show 100 < 300 + tot P; omega)
    exact ⟨_, σ', e0.trans (c1.trans d1), Fm_t (Fm_t a1 b1) d2, Or.inr ⟨M', rfl, d3, d4, d5⟩⟩
  · refine ⟨-1, σ2, e0.trans c1, Fm_t a1 b1, Or.inl ⟨rfl, ?_⟩⟩
    intro M' hE hF
    refine c2 ⟨fun v hv => Nat.le_trans ?_ (hF.1 v hv), fun f hf => Nat.le_trans ?_ (hF.2 f hf)⟩
    · refine cn_mono 10 (fun f hf hp => ?_)
      have ho : O v f = false := by
        cases ho : O v f
        · rfl
        · rw [h.2.2.2.2 v f ho] at hp; cases hp
      rw [hE v f hv hf ho]; exact hp
    · refine cn_mono 10 (fun v hv hp => ?_)
      have ho : O v f = false := by
        cases ho : O v f
        · rfl
        · rw [h.2.2.2.2 v f ho] at hp; cases hp
      rw [hE v f hv hf ho]; exact hp
