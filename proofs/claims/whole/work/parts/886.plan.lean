/-! THE CLASS'S PLAN -/
theorem sub10 {a : Nat} (h : 10 ≤ a) : nI a - 10 = nI (a - 10) := pk_sub (b := 10) h
theorem move_s {σ : St_} {M M0 A : Mx} {T U : Nat → Bool} {N V t p h : Nat} {S : Nat → Prop} (hW : Wv σ M A T U N V) (hF : Fe V N M0) (j : J_ A M0 V N t S h M) (hS : ¬ S p) (hp : p < 22) (hy : wyB M0 A T U N V p h = true) : ∃ σ' M', fX1_moveVisit (nI p) (nI h) σ = some σ' ∧ Fr σ σ' ∧ sM σ' 6 = sM σ 6 ∧ Wv σ' M' A T U N V ∧ J_ A M0 V N t (fun u => S u ∨ u = p) p M' := by
  unfold fX1_moveVisit fX1_moveVisit_30
  have b0 : ∀ x : Nat, 10 ≤ x → x < 100 → fX5_isBelow (nI x) 10 = some 0 := fun x h1 h2 => isBelow_0 (N := 10) (Or.inr (nI_le h1 (by omega)))
  have b1 : ∀ x : Nat, x < 10 → fX5_isBelow (nI x) 10 = some 1 := fun x h1 => isBelow_1 (N := 10) h1 (by decide)
  rcases wy_cases p h hp with ⟨a, c, ha, hc, rfl, rfl⟩ | ⟨a, c, ha, hc, rfl, rfl⟩ | ⟨a, ha, rfl, rfl⟩ | ⟨a, ha, rfl, rfl⟩ | ⟨c, hc, rfl, rfl⟩ | ⟨c, hc, rfl, rfl⟩ | ⟨h0, -⟩
  · rw [wy_vf _ _ _ _ _ _ ha hc, Bool.and_eq_true, Bool.not_eq_true'] at hy
    obtain ⟨m1, m2⟩ := J_add j ha hc hS hy.1 hy.2
    obtain ⟨σ', s1, s2, s3, s4⟩ := add_s hW ha hc hy.1 m1
    refine ⟨σ', _, ?_, s2, s3, s4, m2⟩
    rw [if_neg (nle_10 ha), sub10 (by omega), show 10 + c - 10 = c by omega, b1 c hc, bn_s, if_neg one0, s1]
    rfl
  · rw [wy_fv _ _ _ _ _ _ ha hc, Bool.and_eq_true] at hy
    obtain ⟨m1, m2⟩ := J_drop hF j ha hc hS hy.1 hy.2
    obtain ⟨σ', s1, s2, s3, s4⟩ := drop_s hW ha hc hy.1 m1
    refine ⟨σ', _, ?_, s2, s3, s4, m2⟩
    rw [if_pos (le_10 (by omega) (by omega)), if_neg (nle_10 ha), sub10 (by omega), show 10 + c - 10 = c by omega, b1 c hc, bn_s, if_neg one0, s1]
    rfl
  · refine ⟨σ, M, ?_, Fr_r σ, rfl, hW, J_toSrc j ha hS⟩
    rw [if_neg (nle_10 ha), sub10 (a := 20) (by decide), b0 (20 - 10) (by decide) (by decide), bn_s, if_pos (show (0 : Int32) = 0 from rfl), if_pos (le_10 (v := 20) (by decide) (by decide))]
  · rw [wy_Sv _ _ _ _ _ _ ha, Bool.and_eq_true] at hy
    refine ⟨σ, M, ?_, Fr_r σ, rfl, hW, J_src j ha (of_decide_eq_true hy.2)⟩
    rw [if_pos (le_10 (v := 20) (by decide) (by decide)), if_neg (nle_10 ha), sub10 (a := 20) (by decide), b0 (20 - 10) (by decide) (by decide), bn_s, if_pos (show (0 : Int32) = 0 from rfl)]
  · rw [wy_fK _ _ _ _ _ _ hc, Bool.and_eq_true] at hy
    refine ⟨σ, M, ?_, Fr_r σ, rfl, hW, J_snk j hc hS (of_decide_eq_true hy.2)⟩
    rw [if_pos (le_10 (by omega) (by omega)), if_pos (le_10 (v := 21) (by decide) (by decide))]
  · refine ⟨σ, M, ?_, Fr_r σ, rfl, hW, J_fromSnk j hc⟩
    rw [if_pos (le_10 (v := 21) (by decide) (by decide)), if_pos (le_10 (by omega) (by omega))]
  · rw [h0] at hy
    cases hy
theorem follow_s {M0 A : Mx} {T U : Nat → Bool} {N V t s0 : Nat} {C Q : Nat → Int32} {q : Nat → Nat} {c : Nat} (hT : Tq (wyB M0 A T U N V) s0 C Q q c) (hF : Fe V N M0) : ∀ f i step σ M, i < c → J_ A M0 V N t (fun u => ∃ a, i ≤ a ∧ a < c ∧ q a = u) (q i) M → Wv σ M A T U N V → sM σ 6 = C → i + step < 22 → i < f → ∃ σ' M', fX1_followPath_5 f (nI s0) (nI (q i)) (nI step) σ = some σ' ∧ Fr σ σ' ∧ Wv σ' M' A T U N V ∧ J_ A M0 V N t (fun u => ∃ a, a < c ∧ q a = u) s0 M'
  | 0, i, _, _, _, _, _, _, _, _, h => absurd h (Nat.not_lt_zero i)
  | f + 1, i, step, σ, M, hi, hJ, hW, hC, hs, hf => by
    have eq : fX1_followPath_5 (f + 1) (nI s0) (nI (q i)) (nI step) σ = (if 22 ≤ nI step then some σ else (if nI (q i) = nI s0 then some σ else (gd_ (nI (q i)) 22 fun j1 => (bn_ (fX1_moveVisit (sM σ 6 j1) (nI (q i)) σ) fun r2 => fX1_followPath_5  f (nI s0) (sM σ 6 j1) (nI step + 1) r2)))) := rfl
    obtain ⟨t1, t2, t3, t4, t5⟩ := hT
    have hq := (t3 i hi).1
    rw [if_neg (nle_22 (by omega))] at eq
    by_cases e0 : i = 0
    · subst e0
      rw [if_pos (by rw [t2])] at eq
      rw [t2] at hJ
      exact ⟨σ, M, eq, Fr_r σ, hW, J_w (fun u ⟨a, _, h2, h3⟩ => ⟨a, h2, h3⟩) hJ⟩
    · have hne : ¬ nI (q i) = nI s0 := by
        intro z
        have hs0 : s0 < 22 := by rw [← t2]; exact (t3 0 (by omega)).1
        rw [nI_eq (by omega) (by omega), ← t2] at z
        exact e0 (t4 i 0 hi (by omega) z)
      obtain ⟨k, hk, k1, k2⟩ := t5 i (by omega) hi
      have hk22 := (t3 k (by omega)).1
      have hnS : ¬ ∃ a, i ≤ a ∧ a < c ∧ q a = q k := by
        rintro ⟨a, h1, h2, h3⟩
        have := t4 a k h2 (by omega) h3
        omega
      obtain ⟨σ2, M2, g1, g2, g3, g4, g5⟩ := move_s hW hF hJ hnS hk22 k2
      rw [if_neg hne, gd_s hq (by decide), hC, k1, g1, bn_s, nI_1] at eq
      obtain ⟨σ', M', h1, h2, h3, h4⟩ := follow_s ⟨t1, t2, t3, t4, t5⟩ hF f k (step + 1) σ2 M2 (by omega) (J_w (by
          rintro u (⟨a, h1, h2, h3⟩ | h)
          · exact ⟨a, by omega, h2, h3⟩
          · exact ⟨k, Nat.le_refl k, by omega, h.symm⟩) g5) g4 (g3.trans hC) (by omega) (by omega)
      exact ⟨σ', M', eq.trans h1, Fr_t g2 h2, h3, h4⟩
theorem Wv_bs {σ : St_} {M A : Mx} {T U : Nat → Bool} {N V : Nat} (h : Wv σ M A T U N V) (C Q : Nat → Int32) : Wv (bs σ C Q) M A T U N V := h
theorem Fr_bs (σ : St_) (C Q : Nat → Int32) : Fr σ (bs σ C Q) := Fr_t (Fr_A σ (k := 6) (by decide) C) (Fr_A _ (k := 7) (by decide) Q)
theorem wy_big (M A : Mx) (T U : Nat → Bool) (N V : Nat) (u w : Nat) (hu : u < 22) (hw : 22 ≤ w) : wyB M A T U N V u w = false := by
  rcases wy_cases u w hu with ⟨a, c, ha, hc, rfl, rfl⟩ | ⟨a, c, ha, hc, rfl, rfl⟩ | ⟨a, ha, rfl, rfl⟩ | ⟨a, ha, rfl, rfl⟩ | ⟨c, hc, rfl, rfl⟩ | ⟨c, hc, rfl, rfl⟩ | ⟨h0, -⟩
  · omega
  · omega
  · omega
  · omega
  · omega
  · omega
  · exact h0 M A T U N V
theorem wy_u (M A : Mx) (T U : Nat → Bool) (N V : Nat) (u w : Nat) (h : wyB M A T U N V u w = true) : u < 22 := by
  rcases Nat.lt_or_ge u 22 with q | q
  · exact q
  · unfold wyB at h
    rw [if_neg (by omega), if_neg (by omega), if_neg (by omega), if_neg (by omega)] at h
    cases h
/-- a search and its following, or the reach of a search in vain -/
theorem path_s {σ : St_} {M A : Mx} {T U : Nat → Bool} {N V s0 t : Nat} (hW : Wv σ M A T U N V) (hF : Fe V N M) (hs : s0 < 22) (ht : t < 10 ∨ t = 21) (hne : t ≠ s0) : ∃ r σ1, fX1_findPath (nI s0) (nI t) σ = some (nI (n1 r), σ1) ∧ Fr σ σ1 ∧ Wv σ1 M A T U N V ∧ (r = true → ∃ σ' M', fX1_followPath (nI s0) (nI t) σ1 = some σ' ∧ Fr σ1 σ' ∧ Wv σ' M' A T U N V ∧ ∃ S, J_ A M V N t S s0 M') ∧ (r = false → ∃ R : Nat → Bool, R s0 = true ∧ R t = false ∧ ∀ u w, R u = true → wyB M A T U N V u w = true → R w = true) := by
  obtain ⟨r, C', Q', e, h1, h2⟩ := findPath_s (Wy := wyB M A T U N V) (s0 := s0) (to := t) σ hW.2.2.2.1 (wy_big M A T U N V) hs (by omega) hne
  refine ⟨r, _, e, Fr_bs σ C' Q', Wv_bs hW C' Q', ?_, h2⟩
  intro hr
  obtain ⟨q', c', hT, a, ha, ea⟩ := h1 hr
  have hc : c' ≤ 22 := ph 22 c' _ (fun a ha => (hT.2.2.1 a ha).1) hT.2.2.2.1
  obtain ⟨σ', M', g1, g2, g3, g4⟩ := follow_s (t := t) hT hF FU_ a 0 (bs σ C' Q') M ha (by
      rw [ea]
      exact J_init hF ht ⟨a, Nat.le_refl a, ha, ea⟩) (Wv_bs hW C' Q') rfl (by omega) (by show a < 300; omega)
  rw [ea] at g1
  exact ⟨σ', M', g1, g2, g3, _, g4⟩
theorem sd20 : sd 20 = 0 := rfl
theorem sd21 : sd 21 = 1 := rfl
/-- as many visits as can be -/
def Mo (V N : Nat) (A M0 M : Mx) : Prop := ∀ M', Fe V N M' → (∀ v f, v < 10 → f < 10 → A v f = false → M' v f = M0 v f) → tot M' ≤ tot M
theorem max_of_cut {M A : Mx} {T U : Nat → Bool} {N V : Nat} {R : Nat → Bool} (hA : ∀ v f, A v f = true → v < 10 ∧ f < 10 ∧ T v = true ∧ U f = true) (h20 : R 20 = true) (h21 : R 21 = false) (hc : ∀ u w, R u = true → wyB M A T U N V u w = true → R w = true) : Mo V N A M M := by
  intro M' hF hE
  refine L_max (A := A) (X := fun v => R v) (Y := fun f => R (10 + f)) hE ?_ ?_ ?_ ?_
  · intro v f hv hf hx hy ha
    cases hm : M v f
    · have := hc v (10 + f) hx (by rw [wy_vf _ _ _ _ _ _ hv hf, ha, hm]; rfl)
      rw [hy] at this
      cases this
    · rfl
  · intro v f hv hf hx hy ha
    cases hm : M v f
    · rfl
    · have := hc (10 + f) v hy (by rw [wy_fv _ _ _ _ _ _ hv hf, ha, hm]; rfl)
      rw [hx] at this
      cases this
  · intro v hv hx
    cases hT : T v
    · have : row M' v = row M v := cn_congr 10 (fun f hf => hE v f hv hf (by
        cases ha : A v f
        · rfl
        · rw [(hA v f ha).2.2.1] at hT; cases hT))
      omega
    · rcases Nat.lt_or_ge (row M v) V with q | q
      · have := hc 20 v h20 (by rw [wy_Sv _ _ _ _ _ _ hv, hT, decide_eq_true q]; rfl)
        rw [hx] at this
        cases this
      · have := hF.1 v hv
        omega
  · intro f hf hy
    cases hU : U f
    · have : col M' f = col M f := cn_congr 10 (fun v hv => hE v f hv hf (by
        cases ha : A v f
        · rfl
        · rw [(hA v f ha).2.2.2] at hU; cases hU))
      omega
    · rcases Nat.lt_or_ge (col M f) N with q | q
      · have := hc (10 + f) 21 hy (by rw [wy_fK _ _ _ _ _ _ hf, hU, decide_eq_true q]; rfl)
        rw [h21] at this
        cases this
      · have := hF.2 f hf
        omega
theorem planMost_s {A M0 : Mx} {T U : Nat → Bool} {N V : Nat} : ∀ f d σ M, Wv σ M A T U N V → Fe V N M → (∀ v f, A v f = false → M v f = M0 v f) → d ≤ tot M → 100 < f + d → d ≤ 100 → ∃ σ' M', fX1_planMost_2 f (nI d) σ = some σ' ∧ Fr σ σ' ∧ Wv σ' M' A T U N V ∧ Fe V N M' ∧ (∀ v f, A v f = false → M' v f = M0 v f) ∧ Mo V N A M0 M'
  | 0, d, _, _, _, _, _, _, h1, h2 => absurd h1 (by omega)
  | f + 1, d, σ, M, hW, hF, hE, hd, h1, h2 => by
    have eq : fX1_planMost_2 (f + 1) (nI d) σ = (if 100 ≤ nI d then some σ else (bn_ (fX1_findPath (nI 20) (nI 21) σ) fun r1 => (if r1.1 = 0 then some r1.2 else (bn_ (fX1_followPath (nI 20) (nI 21) r1.2) fun r2 => fX1_planMost_2  f (nI d + 1) r2)))) := rfl
    by_cases e : d = 100
    · rw [if_pos (le_100 (by omega) (by omega))] at eq
      refine ⟨σ, M, eq, Fr_r σ, hW, hF, hE, ?_⟩
      intro M' _ _
      have := tot_100 M'
      omega
    · obtain ⟨r, σ1, g1, g2, g3, g4, g5⟩ := path_s (s0 := 20) (t := 21) hW hF (by decide) (Or.inr rfl) (by decide)
      rw [if_neg (nle_100 (by omega)), g1, bn_s] at eq
      dsimp only at eq
      cases hr : r
      · rw [hr, ite_f] at eq
        obtain ⟨R, c1, c2, c3⟩ := g5 hr
        refine ⟨σ1, M, eq, g2, g3, hF, hE, ?_⟩
        intro M' hF' hE'
        exact max_of_cut hW.2.2.2.2 c1 c2 c3 M' hF' (fun v f hv hf ha => (hE' v f hv hf ha).trans (hE v f ha).symm)
      · obtain ⟨σ2, M2, k1, k2, k3, S, k4⟩ := g4 hr
        rw [hr, ite_t, k1, bn_s, nI_1] at eq
        obtain ⟨j1, j2, j3, j4, j5, j6, j7, j8, j9, j10⟩ := k4
        rw [sd20, sd21] at j4
        have hF2 : Fe V N M2 := ⟨fun v hv => by
          have := j5 v hv (by omega)
          omega, fun f hf => j7 f hf (by omega)⟩
        obtain ⟨σ', M', m1, m2, m3, m4, m5, m6⟩ := planMost_s f (d + 1) σ2 M2 k3 hF2 (fun v f ha => (j10 v f ha).trans (hE v f ha)) (by omega) (by omega) (by omega)
        exact ⟨σ', M', eq.trans m1, Fr_t (Fr_t g2 k2) m2, m3, m4, m5, m6⟩
