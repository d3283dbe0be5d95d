/-! A FARM'S YEAR -/
theorem wof_c {σ τ : St_} (e : sM σ = sM τ) : ∀ n a b c, fX5_weightOf_4 σ n a b c = fX5_weightOf_4 τ n a b c
  | 0, _, _, _ => rfl
  | n + 1, a, b, c => by simp only [fX5_weightOf_4, fX5_weightOf_27, e, wof_c e n]
theorem brX_c {σ τ : St_} (e : sM σ = sM τ) : ∀ n a b c d, fX4_breachesAt_7 σ n a b c d = fX4_breachesAt_7 τ n a b c d
  | 0, _, _, _, _ => rfl
  | n + 1, a, b, c, d => by simp only [fX4_breachesAt_7, e, brX_c e n]
theorem vofM_c {σ τ : St_} (e1 : sS σ = sS τ) (e2 : sM σ 17 = sM τ 17) : ∀ n a b c, fX6_visitorsOf_4 σ n a b c = fX6_visitorsOf_4 τ n a b c
  | 0, _, _, _ => rfl
  | n + 1, a, b, c => by simp only [fX6_visitorsOf_4, fX6_visitorsOf_27, fX6_isVisit, e1, e2, vofM_c e1 e2 n]
def RX (k : Nat) (x x2 : St_) : Prop := x2.1 = x.1 ∧ x2.2.1 = x.2.1 ∧ x2.2.2.1 = x.2.2.1 ∧ ∀ i j, i ≠ k → sF x2 i j = sF x i j
def RM (k : Nat) (m m2 : St_) : Prop := m2.1 = m.1 ∧ (∀ a, a ≠ 10 → a ≠ 11 → a ≠ 12 → a ≠ 14 → sM m2 a = sM m a) ∧ ∀ a j, j ≠ k → sM m2 a j = sM m a j
theorem RX_r (k : Nat) (x : St_) : RX k x x := ⟨rfl, rfl, rfl, fun _ _ _ => rfl⟩
theorem RX_F {k : Nat} {x x2 : St_} (h : RX k x x2) (j : Nat) (v : Int32) : RX k x (uF x2 k j v) :=
  ⟨h.1, h.2.1, h.2.2.1, fun i j' hi => by rw [sF_uF, if_neg hi]; exact h.2.2.2 i j' hi⟩
theorem RX_t {k : Nat} {x y z : St_} (h : RX k x y) (g : RX k y z) : RX k x z := ⟨g.1.trans h.1, g.2.1.trans h.2.1, g.2.2.1.trans h.2.2.1, fun i j hi => (g.2.2.2 i j hi).trans (h.2.2.2 i j hi)⟩
theorem RM_r (k : Nat) (m : St_) : RM k m m := ⟨rfl, fun _ _ _ _ _ => rfl, fun _ _ _ => rfl⟩
theorem RM_M {k : Nat} {m m2 : St_} (h : RM k m m2) (a : Nat) (ha : a = 10 ∨ a = 11 ∨ a = 12 ∨ a = 14) (v : Int32) : RM k m (uM m2 a k v) := by
  refine ⟨h.1, ?_, ?_⟩
  · intro b b1 b2 b3 b4
    rw [sM_uM, if_neg (by omega)]
    exact h.2.1 b b1 b2 b3 b4
  · intro b j hj
    rw [sM_uM]
    by_cases q : b = a
    · rw [if_pos q, upd_n _ _ hj, q]
      exact h.2.2 a j hj
    · rw [if_neg q]
      exact h.2.2 b j hj
theorem RM_t {k : Nat} {x y z : St_} (h : RM k x y) (g : RM k y z) : RM k x z := ⟨g.1.trans h.1, fun a h1 h2 h3 h4 => (g.2.1 a h1 h2 h3 h4).trans (h.2.1 a h1 h2 h3 h4), fun i j hi => (g.2.2 i j hi).trans (h.2.2 i j hi)⟩
theorem Inv_farms {y y2 m m2 : St_} (h : Inv_ y m) {k : Nat} (hk : k < sN y) (hX : RX k y y2) (hM : RM k m m2) (h8 : (sF y2 k 0 = sM m2 7 k ∧ sF y2 k 1 = sM m2 8 k ∧ sF y2 k 2 = sM m2 10 k ∧ sF y2 k 3 = sM m2 11 k ∧ sF y2 k 4 = sM m2 12 k ∧ sF y2 k 5 = sM m2 13 k ∧ sF y2 k 6 = sM m2 15 k ∧ sF y2 k 7 = sM m2 14 k) ∧ b01 (sM m2 10 k) ∧ ∃ z : Nat, z ≤ 2 ∧ sM m2 11 k = nI z) : Inv_ y2 m2 := by
  obtain ⟨e1, e2, e3, e4⟩ := hX
  obtain ⟨g1, g2, g3⟩ := hM
  have sSy : ∀ a, sS y2 a = sS y a := fun a => congrFun e1 a
  have sMy : ∀ a, sM y2 a = sM y a := fun a => congrFun e2 a
  have sNy : sN y2 = sN y := e3
  have sSm : ∀ a, sS m2 a = sS m a := fun a => congrFun g1 a
  have m0 := g2 0 (by decide) (by decide) (by decide) (by decide)
  have m5 := g2 5 (by decide) (by decide) (by decide) (by decide)
  have m9 := g2 9 (by decide) (by decide) (by decide) (by decide)
  have m16 := g2 16 (by decide) (by decide) (by decide) (by decide)
  have m17 := g2 17 (by decide) (by decide) (by decide) (by decide)
  have m18 := g2 18 (by decide) (by decide) (by decide) (by decide)
  have m19 := g2 19 (by decide) (by decide) (by decide) (by decide)
  have vE : ∀ v f, vis m2 v f = vis m v f := by
    intro v f
    unfold vis
    rw [sSm, m17]
  obtain ⟨h1, h2, h3, h4, h5, h6, h7, h8', h9, h10, h11, h12, h13⟩ := h
  unfold Inv_
  simp only [sSy, sMy, sNy, sSm, vE, m0, m5, m9, m16, m17, m18, m19]
  refine ⟨h1, h2, h3, h4, h5, ?_, ?_, h8', h9, h10, h11, h12, h13⟩
  · intro i hi
    by_cases q : i = k
    · subst q
      exact h8
    · rw [e4 i 0 q, e4 i 1 q, e4 i 2 q, e4 i 3 q, e4 i 4 q, e4 i 5 q, e4 i 6 q, e4 i 7 q, g3 7 i q, g3 8 i q, g3 10 i q, g3 11 i q, g3 12 i q, g3 13 i q, g3 14 i q, g3 15 i q]
      exact h6 i hi
  · intro i hi hi10
    have q : i ≠ k := by omega
    rw [g3 10 i q, g3 11 i q, g3 12 i q, g3 13 i q, g3 14 i q, g3 15 i q]
    exact h7 i hi hi10
/-- what a farm's year asks of both sides -/
def GO (k : Nat) (x m x2 m2 : St_) : Prop := RX k x x2 ∧ RM k m m2 ∧ (∀ j, j ≠ 2 → j ≠ 3 → j ≠ 4 → sF x2 k j = sF x k j) ∧ sM m2 14 k = sM m 14 k ∧ sF x2 k 2 = sM m2 10 k ∧ sF x2 k 3 = sM m2 11 k ∧ sF x2 k 4 = sM m2 12 k ∧ b01 (sM m2 10 k) ∧ ∃ z : Nat, z ≤ 2 ∧ sM m2 11 k = nI z
theorem nar0 : vp_nar .boolean 0 = 0 := nar_b (Or.inl rfl)
theorem nar1 : vp_nar .boolean 1 = 1 := nar_b (Or.inr rfl)
theorem out41 {x m τ μ : St_} {k : Nat} (hk : k < 10) (hX : RX k x τ) (hM : RM k m μ) (hx : ∀ j, j ≠ 2 → j ≠ 3 → j ≠ 4 → sF τ k j = sF x k j) (hm : sM μ 14 k = sM m 14 k) (hr : sM τ 1 4 = sM μ 5 4) : ∃ x2 m2, fX0_goOn_41 k τ = some x2 ∧ fX6_goesOut (nI k) μ = some m2 ∧ GO k x m x2 m2 := by
  refine ⟨uF (uF (uF τ k 2 0) k 3 0) k 4 (sM τ 1 4), uM (uM (uM μ 10 k 0) 11 k 0) 12 k (sM μ 5 4), ?_, ?_, RX_F (RX_F (RX_F hX _ _) _ _) _ _, RM_M (RM_M (RM_M hM _ (by decide) _) _ (by decide) _) _ (by decide) _, ?_, hm, ?_, ?_, ?_, ?_, 0, by decide, ?_⟩
  · unfold fX0_goOn_41
    rw [show (4 : Int32) = nI 4 from rfl, number_s _ (by decide)]
    rfl
  · unfold fX6_goesOut
    rw [gd_s hk (by decide), gd_s hk (by decide), show gd_ (α := St_) 4 = gd_ (nI 4) from rfl, gd_s (by decide) (by decide), gd_s hk (by decide), nar0]
    rfl
  · intro j j2 j3 j4
    rw [sF_uF, if_pos rfl, if_neg j4, sF_uF, if_pos rfl, if_neg j3, sF_uF, if_pos rfl, if_neg j2]
    exact hx j j2 j3 j4
  · rw [sF_uF, if_pos rfl, if_neg (by decide), sF_uF, if_pos rfl, if_neg (by decide), sF_uF, if_pos rfl, if_pos rfl]
    exact (upd_s _ _ _).symm
  · rw [sF_uF, if_pos rfl, if_neg (by decide), sF_uF, if_pos rfl, if_pos rfl]
    exact (upd_s _ _ _).symm
  · rw [sF_uF, if_pos rfl, if_pos rfl, hr]
    exact (upd_s _ _ _).symm
  · exact Or.inl (upd_s _ _ _)
  · exact upd_s _ _ _
theorem goOn_s {x m : St_} {k V : Nat} (s : Int32) (hk : k < 10) (hr : ∀ j, j < 6 → sM x 1 j = sM m 5 j) (f2 : sF x k 2 = sM m 10 k) (f3 : sF x k 3 = sM m 11 k) (f4 : sF x k 4 = sM m 12 k) (gb : b01 (sM m 10 k)) {z : Nat} (hz : z ≤ 2) (ez : sM m 11 k = nI z) (hV : V ≤ 10) (eV : ∀ τ : St_, sS τ = sS m → sM τ 17 = sM m 17 → fX6_visitorsOf (nI k) τ = some (nI V)) : ∃ x2 m2, fX0_goOn k s (nI V) x = some x2 ∧ fX6_goesBy_29 (nI k) s m = some m2 ∧ GO k x m x2 m2 := by
  have g3 : ∀ K : Nat → Option St_, gd_ 3 6 K = K 3 := fun K => gd_s (j := 3) (by decide) (by decide) K
  have g2 : ∀ K : Nat → Option St_, gd_ 2 6 K = K 2 := fun K => gd_s (j := 2) (by decide) (by decide) K
  unfold fX0_goOn fX6_goesBy_29 fX0_isOut
  simp only [gd_s hk (by decide : 10 < 2 ^ 31), g3, g2, f4]
  by_cases o : sM m 12 k ≤ 0
  · rw [if_pos o, if_pos o, bn_s, if_pos (show (0 : Int32) = 0 from rfl)]
    -- the new step, by both
    have key : ∃ x1 w, w ≤ 3 ∧ fX0_changeStep k s x = some x1 ∧ RX k x x1 ∧ (∀ j, j ≠ 3 → sF x1 k j = sF x k j) ∧ sF x1 k 3 = nI w ∧ (if s < sM m 5 2 then (if sM m 11 k ≤ 0 then fX6_goesBy_112 (nI k) 0 (nI k) m else fX6_goesBy_112 (nI k) (sM m 11 k - 1) (nI k) m) else fX6_goesBy_112 (nI k) (sM m 11 k + 1) (nI k) m) = fX6_goesBy_112 (nI k) (nI w) (nI k) m := by
      unfold fX0_changeStep
      rw [show (2 : Int32) = nI 2 from rfl, number_s _ (by decide), bn_s, hr 2 (by decide), f3, ez]
      by_cases q2 : s < sM m 5 2
      · rw [if_pos q2, if_pos q2]
        by_cases q3 : z = 0
        · subst q3
          rw [if_pos (show nI 0 ≤ 0 by decide), if_pos (show nI 0 ≤ 0 by decide)]
          exact ⟨x, 0, by decide, rfl, RX_r k x, fun _ _ => rfl, f3.trans ez, rfl⟩
        · have q4 : ¬ nI z ≤ 0 := nI_ge (a := 0) (by omega) (by omega)
          have q5 : nI z - 1 = nI (z - 1) := pk_sub (b := 1) (by omega)
          rw [if_neg q4, if_neg q4, q5]
          refine ⟨_, z - 1, by omega, rfl, RX_F (RX_r k x) _ _, ?_, ?_, rfl⟩
          · intro j hj
            rw [sF_uF, if_pos rfl, if_neg hj]
          · rw [sF_uF, if_pos rfl, if_pos rfl]
      · rw [if_neg q2, if_neg q2, nI_1]
        refine ⟨_, z + 1, by omega, rfl, RX_F (RX_r k x) _ _, ?_, ?_, rfl⟩
        · intro j hj
          rw [sF_uF, if_pos rfl, if_neg hj]
        · rw [sF_uF, if_pos rfl, if_pos rfl]
    obtain ⟨x1, w, hw, c1, c2, c3, c4, c5⟩ := key
    rw [c1, bn_s, show (3 : Int32) = nI 3 from rfl, number_s _ (by decide), bn_s, show sM x1 1 3 = sM m 5 3 from by rw [← hr 3 (by decide)]; exact congrFun (congrFun c2.2.1 1) 3, c5]
    have r4 : ∀ μ : St_, sM μ 5 = sM m 5 → sM x1 1 4 = sM μ 5 4 := fun μ e => by
      rw [e, ← hr 4 (by decide)]
      exact congrFun (congrFun c2.2.1 1) 4
    by_cases q3 : s < sM m 5 3
    · rw [if_pos q3, if_neg (Int32.not_le.mpr q3), c4]
      unfold fX6_goesBy_112 fX6_goesBy_150 fX0_goOn_74
      rw [gd_s hk (by decide), gd_s hk (by decide), show sM (uM m 11 k (nI w)) 11 k = nI w from upd_s _ _ _]
      by_cases w3 : w = 3
      · subst w3
        rw [if_neg (show ¬ nI 3 < nI 3 by decide), if_pos (show nI 3 = 3 from rfl)]
        obtain ⟨x2, m2, k1, k2, k3⟩ := out41 (x := x) (m := m) (μ := uM m 11 k (nI 3)) hk c2 (RM_M (RM_r k m) 11 (by decide) _) (fun j _ j3 _ => c3 j j3) rfl (r4 _ rfl)
        refine ⟨x2, m2, k1, ?_, k3⟩
        rw [k2]
        rfl
      · rw [if_pos (nI_lt (by omega) (by decide)), if_neg (show ¬ nI w = 3 from fun e => w3 ((nI_eq (a := w) (b := 3) (by omega) (by decide)).mp e)), eV (uM m 11 k (nI w)) rfl rfl, bn_s]
        have fin : ∀ t : Int32, b01 t → ∃ x2 m2, gz_ t (some (uF x1 k 2 t)) = some x2 ∧ (gd_ (nI k) 10 fun j26 => some (uM (uM m 11 k (nI w)) 10 j26 (vp_nar .boolean t))) = some m2 ∧ GO k x m x2 m2 := by
          intro t ht
          refine ⟨_, _, gz_ok ht _, gd_s hk (by decide) _, RX_F c2 _ _, RM_M (RM_M (RM_r k m) 11 (by decide) _) 10 (by decide) _, ?_, rfl, ?_, ?_, ?_, ?_, w, by omega, ?_⟩
          · intro j j2 j3 _
            rw [sF_uF, if_pos rfl, if_neg j2]
            exact c3 j j3
          · rw [sF_uF, if_pos rfl, if_pos rfl, nar_b ht]
            exact (upd_s _ _ _).symm
          · rw [sF_uF, if_pos rfl, if_neg (by decide), c4]
            exact (upd_s _ _ _).symm
          · rw [sF_uF, if_pos rfl, if_neg (by decide), c3 4 (by decide)]
            exact f4
          · rw [nar_b ht]
            rw [show sM (uM (uM m 11 k (nI w)) 10 k t) 10 k = t from upd_s _ _ _]
            exact ht
          · exact upd_s _ _ _
        by_cases v1 : V ≤ 1
        · rw [if_pos (show nI V < 2 from nI_lt (b := 2) (by omega) (by decide)), if_pos (show nI V ≤ 1 from nI_le (b := 1) v1 (by decide))]
          exact fin 0 (Or.inl rfl)
        · rw [if_neg (show ¬ nI V < 2 from nI_nlt (b := 2) (by omega) (by omega)), if_neg (show ¬ nI V ≤ 1 from nI_ge (a := 1) (by omega) (by omega))]
          exact fin 1 (Or.inr rfl)
    · rw [if_neg q3, if_pos (Int32.not_lt.mp q3)]
      obtain ⟨x2, m2, k1, k2, k3⟩ := out41 (x := x) (m := m) (μ := m) hk c2 (RM_r k m) (fun j _ j3 _ => c3 j j3) rfl (r4 _ rfl)
      refine ⟨x2, m2, k1, ?_, k3⟩
      rw [k2]
      rfl
  · rw [if_neg o, if_neg o, bn_s, if_neg one0]
    refine ⟨_, _, rfl, rfl, RX_F (RX_r k x) _ _, RM_M (RM_r k m) 12 (by decide) _, ?_, rfl, ?_, ?_, ?_, gb, z, hz, ez⟩
    · intro j _ _ j4
      rw [sF_uF, if_pos rfl, if_neg j4]
    · rw [sF_uF, if_pos rfl, if_neg (by decide)]
      exact f2
    · rw [sF_uF, if_pos rfl, if_neg (by decide)]
      exact f3
    · rw [sF_uF, if_pos rfl, if_pos rfl]
      exact (upd_s _ _ _).symm
