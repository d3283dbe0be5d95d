/-! THE YEAR -/
def yF (k : Nat) (x m : St_) : St_ := (x.1, x.2.1, x.2.2.1, fun i j => if j = 6 ∧ i < k then sM m 15 i else x.2.2.2 i j)
def Ly (k : Nat) (x m : St_) : Prop := Inv_ (yF k x m) m ∧ ∀ i, i < k → sF x i 6 = 0
theorem yF_k (k j : Nat) (x m : St_) : sF (yF k x m) k j = sF x k j := if_neg (by omega)
theorem Ly_0 {x m : St_} (h : Inv_ x m) : Ly 0 x m := by
  refine ⟨?_, fun i hi => absurd hi (Nat.not_lt_zero i)⟩
  have : yF 0 x m = x := by
    unfold yF
    have e : (fun i j => if j = 6 ∧ i < 0 then sM m 15 i else x.2.2.2 i j) = x.2.2.2 := by
      funext i j
      exact if_neg (by omega)
    rw [e]
  rw [this]
  exact h
theorem Ly_step {x m x2 m2 : St_} {k : Nat} (hL : Ly k x m) (hk : k < sN x) (hX : RX k x x2) (hM : RM k m m2) (v : sF x2 k 0 = sF x k 0 ∧ sF x2 k 1 = sF x k 1 ∧ sF x2 k 2 = sM m2 10 k ∧ sF x2 k 3 = sM m2 11 k ∧ sF x2 k 4 = sM m2 12 k ∧ sF x2 k 5 = sF x k 5 ∧ sF x2 k 6 = 0 ∧ sF x2 k 7 = sM m2 14 k ∧ b01 (sM m2 10 k) ∧ ∃ z : Nat, z ≤ 2 ∧ sM m2 11 k = nI z) : Ly (k + 1) x2 m2 := by
  obtain ⟨v0, v1, v2, v3, v4, v5, v6, v7, vb, vz⟩ := v
  have hI := hL.1
  obtain ⟨⟨f0, f1, f2, f3, f4, f5, f6, f7⟩, fb, fz⟩ := hI.2.2.2.2.2.1 k hk
  rw [yF_k] at f0 f1 f2 f3 f4 f5 f6 f7
  have e : ∀ j, j ≠ 6 → sF (yF (k + 1) x2 m2) k j = sF x2 k j := fun j hj => if_neg (fun z => hj z.1)
  refine ⟨Inv_farms hI hk ⟨hX.1, hX.2.1, hX.2.2.1, ?_⟩ hM ⟨⟨?_, ?_, ?_, ?_, ?_, ?_, ?_, ?_⟩, vb, vz⟩, ?_⟩
  · intro i j hi
    show (if j = 6 ∧ i < k + 1 then sM m2 15 i else sF x2 i j) = (if j = 6 ∧ i < k then sM m 15 i else sF x i j)
    rw [hM.2.2 15 i hi, hX.2.2.2 i j hi]
    by_cases q : j = 6 ∧ i < k
    · rw [if_pos q, if_pos (by omega)]
    · rw [if_neg q, if_neg (by omega)]
  · rw [e 0 (by decide), v0, f0, hM.2.1 7 (by decide) (by decide) (by decide) (by decide)]
  · rw [e 1 (by decide), v1, f1, hM.2.1 8 (by decide) (by decide) (by decide) (by decide)]
  · rw [e 2 (by decide), v2]
  · rw [e 3 (by decide), v3]
  · rw [e 4 (by decide), v4]
  · rw [e 5 (by decide), v5, f5, hM.2.1 13 (by decide) (by decide) (by decide) (by decide)]
  · exact if_pos ⟨rfl, by omega⟩
  · rw [e 7 (by decide), v7]
  · intro i hi
    by_cases q : i = k
    · rw [q]; exact v6
    · rw [hX.2.2.2 i 6 q]
      exact hL.2 i (by omega)
theorem year_step {x m : St_} {k : Nat} (hL : Ly k x m) (hk : k < sN x) : ∃ x2 m2, Ly (k + 1) x2 m2 ∧ x2.1 = x.1 ∧ x2.2.1 = x.2.1 ∧ x2.2.2.1 = x.2.2.1 ∧ m2.1 = m.1 ∧ (∀ f, fX5_year_24 (f + 1) (nI k) x = fX5_year_24 f (nI (k + 1)) x2) ∧ fX6_goesBy (nI k) m = some m2 := by
  have hI := hL.1
  have hn : sN x ≤ 10 := hI.1.1
  have hk10 : k < 10 := by omega
  obtain ⟨b, s, e1, e2, e3, e4⟩ := weigh_eq hI (f := k) hk10
  obtain ⟨⟨f0, f1, f2, f3, f4, f5, f6, f7⟩, fb, z, hz, ez⟩ := hI.2.2.2.2.2.1 k hk
  rw [yF_k] at f0 f1 f2 f3 f4 f5 f6 f7
  have e1' : fX4_breachesAt (nI k) x = some b := (brX_c (σ := x) (τ := yF k x m) rfl _ _ _ _ _).trans e1
  have e3' : ∀ τ : St_, τ.2.1 = x.2.1 → fX5_weightOf b τ = some s := fun τ e => (wof_c (σ := τ) (τ := yF k x m) (funext fun a => congrFun e a) _ _ _ _).trans e3
  have vc := visitorCount_s hI (f := k) hk10
  have vc' : ∀ τ : St_, τ.2.1 = x.2.1 → fX4_visitorCount (nI k) τ = some (nI (cn (fun v => vis m v k) 10)) := fun τ e => by
    rw [← vc]
    unfold fX4_visitorCount
    rw [show sM τ 3 = sM (yF k x m) 3 from congrFun e 3]
  have vm := visitorsOf_s hI (f := k) hk10
  have vm' : ∀ τ : St_, sS τ = sS m → sM τ 17 = sM m 17 → fX6_visitorsOf (nI k) τ = some (nI (cn (fun v => vis m v k) 10)) := fun τ h1 h2 => (vofM_c h1 h2 _ _ _ _).trans vm
  have hA : fX5_farmAt (nI k) x = some (some k) := F_at hI hk
  have hr : ∀ j, j < 6 → sM x 1 j = sM m 5 j := hI.2.2.2.2.1.1
  have hS5 : sS x 5 = nI (sN x) := hI.1.2.1
  -- the doubtful ones
  have cd : ∃ x1 m1, (∀ f, fX5_year_24 (f + 1) (nI k) x = (bn_ (fX0_goOn k s (nI (cn (fun v => vis m v k) 10)) x1) fun r13 => fX5_year_24 f (nI k + 1) r13)) ∧ fX6_goesBy (nI k) m = fX6_goesBy_29 (nI k) s m1 ∧ RX k x x1 ∧ RM k m m1 ∧ sF x1 k 6 = 0 ∧ sF x1 k 7 = sM m1 14 k ∧ (∀ j, j ≠ 6 → j ≠ 7 → sF x1 k j = sF x k j) ∧ (∀ a, a ≠ 14 → sM m1 a = sM m a) := by
    have eX : ∀ f, fX5_year_24 (f + 1) (nI k) x = (if (sS x 5) ≤ nI k then fX5_year_91 x else (bn_ (fX5_farmAt (nI k) x) fun r4 => (match r4 with | none => fX5_year_85 (fX5_year_24 f) (nI k) x | some i5 => (bn_ (fX4_breachesAt (nI k) x) fun r6 => (if r6 = 0 then fX5_year_61 (fX5_year_24 f) (nI k) i5 r6 0 i5 x else fX5_year_61 (fX5_year_24 f) (nI k) i5 r6 1 i5 x))))) := fun f => rfl
    unfold fX6_goesBy
    rw [e4, bn_s, e2, bn_s]
    by_cases b0 : b = 0
    · refine ⟨uF x k 6 0, m, ?_, if_pos b0, RX_F (RX_r k x) _ _, RM_r k m, ?_, ?_, ?_, fun _ _ => rfl⟩
      · intro f
        rw [eX, hS5, if_neg (nI_ge hk (by omega)), hA, bn_s]
        dsimp only
        rw [e1', bn_s, if_pos b0]
        unfold fX5_year_61 fX0_countDoubtful fX0_countDoubtful_17
        rw [if_pos (show (0 : Int32) = 0 from rfl), bn_s, e3' (uF x k 6 0) rfl, bn_s, vc' (uF x k 6 0) rfl, bn_s]
        rfl
      · rw [sF_uF, if_pos rfl, if_pos rfl]
      · rw [sF_uF, if_pos rfl, if_neg (by decide)]
        exact f7
      · intro j j6 _
        rw [sF_uF, if_pos rfl, if_neg j6]
    · refine ⟨uF (uF x k 7 (sF x k 7 + sF x k 6)) k 6 0, uM m 14 k (sM m 14 k + sM m 15 k), ?_, ?_, RX_F (RX_F (RX_r k x) _ _) _ _, RM_M (RM_r k m) 14 (by decide) _, ?_, ?_, ?_, ?_⟩
      · intro f
        rw [eX, hS5, if_neg (nI_ge hk (by omega)), hA, bn_s]
        dsimp only
        rw [e1', bn_s, if_neg b0]
        unfold fX5_year_61 fX0_countDoubtful fX0_countDoubtful_17
        rw [if_neg one0, bn_s, e3' (uF (uF x k 7 (sF x k 7 + sF x k 6)) k 6 0) rfl, bn_s, vc' (uF (uF x k 7 (sF x k 7 + sF x k 6)) k 6 0) rfl, bn_s]
        rfl
      · rw [if_neg b0, gd_s hk10 (by decide), gd_s hk10 (by decide), gd_s hk10 (by decide)]
      · rw [sF_uF, if_pos rfl, if_pos rfl]
      · rw [sF_uF, if_pos rfl, if_neg (by decide), sF_uF, if_pos rfl, if_pos rfl, f7, f6]
        exact (upd_s _ _ _).symm
      · intro j j6 j7
        rw [sF_uF, if_pos rfl, if_neg j6, sF_uF, if_pos rfl, if_neg j7]
      · intro a ha
        exact if_neg ha
  obtain ⟨x1, m1, c1, c2, c3, c4, c5, c6, c7, c8⟩ := cd
  obtain ⟨x2, m2, g1, g2, g3, g4, g5, g6, g7, g8, g9, g10, g11⟩ := goOn_s (x := x1) (m := m1) s hk10 (fun j hj => by
      rw [c8 5 (by decide), ← hr j hj]
      exact congrFun (congrFun c3.2.1 1) j) (by rw [c7 2 (by decide) (by decide), c8 10 (by decide)]; exact f2) (by rw [c7 3 (by decide) (by decide), c8 11 (by decide)]; exact f3) (by rw [c7 4 (by decide) (by decide), c8 12 (by decide)]; exact f4) (by rw [c8 10 (by decide)]; exact fb) hz (by rw [c8 11 (by decide)]; exact ez) (cn_le (fun v => vis m v k) 10) (fun τ h1 h2 => vm' τ (h1.trans (funext fun a => congrFun c4.1 a)) (by rw [h2, c8 17 (by decide)]))
  have rX := RX_t c3 g3
  have rM := RM_t c4 g4
  refine ⟨x2, m2, Ly_step hL hk rX rM ⟨?_, ?_, g7, g8, g9, ?_, ?_, ?_, g10, g11⟩, rX.1, rX.2.1, rX.2.2.1, rM.1, ?_, c2.trans g2⟩
  · rw [g5 0 (by decide) (by decide) (by decide), c7 0 (by decide) (by decide)]
  · rw [g5 1 (by decide) (by decide) (by decide), c7 1 (by decide) (by decide)]
  · rw [g5 5 (by decide) (by decide) (by decide), c7 5 (by decide) (by decide)]
  · rw [g5 6 (by decide) (by decide) (by decide), c5]
  · rw [g5 7 (by decide) (by decide) (by decide), g6, c6]
  · intro f
    rw [c1 f, g1, bn_s, nI_1]
theorem year_loop (N : Nat) : ∀ d f g k x m, sN x = N → k + d = N → d < f → d < g → Ly k x m → ∃ x2 m2, Ly N x2 m2 ∧ x2.1 = x.1 ∧ sN x2 = N ∧ m2.1 = m.1 ∧ fX5_year_24 f (nI k) x = fX5_year_91 x2 ∧ fX6_year_21 g (nI k) m = fX6_year_40 m2
  | d, 0, _, _, _, _, _, _, h, _, _ => absurd h (Nat.not_lt_zero d)
  | d, _, 0, _, _, _, _, _, _, h, _ => absurd h (Nat.not_lt_zero d)
  | 0, f + 1, g + 1, k, x, m, eN, e, _, _, hL => by
    have hn : sN x ≤ 10 := hL.1.1.1
    have hS5 : sS x 5 = nI (sN x) := hL.1.1.2.1
    have hS2 : sS m 2 = nI (sN x) := hL.1.1.2.2
    have ek : k = N := by omega
    subst ek
    refine ⟨x, m, hL, rfl, eN, rfl, ?_, ?_⟩
    · show (if sS x 5 ≤ nI k then fX5_year_91 x else _) = _
      rw [hS5, if_pos (nI_le (by omega) (by omega))]
    · show (if sS m 2 ≤ nI k then fX6_year_40 m else _) = _
      rw [hS2, if_pos (nI_le (by omega) (by omega))]
  | d + 1, f + 1, g + 1, k, x, m, eN, e, hf, hg, hL => by
    have hn : sN x ≤ 10 := hL.1.1.1
    have hS2 : sS m 2 = nI (sN x) := hL.1.1.2.2
    obtain ⟨x1, m1, a1, a2, a3, a4, a5, a6, a7⟩ := year_step hL (by omega)
    obtain ⟨x2, m2, b1, b2, b3, b4, b5, b6⟩ := year_loop N d f g (k + 1) x1 m1 (show x1.2.2.1 = N by rw [a4]; exact eN) (by omega) (by omega) (by omega) a1
    refine ⟨x2, m2, b1, b2.trans a2, b3, b4.trans a5, ?_, ?_⟩
    · rw [a6, b5]
    · show (if sS m 2 ≤ nI k then fX6_year_40 m else (bn_ (fX6_goesBy (nI k) m) fun r3 => fX6_year_21 g (nI k + 1) r3)) = _
      rw [hS2, if_neg (nI_ge (by omega) (by omega)), a7, bn_s, nI_1, b6]
/-- the class's fields fall back at the year's end -/
theorem fillr_s (i : Nat) (σ : St_) : fJ7_fill_53178_qr i 0 σ = some (uA σ (12 + i) (fun j => if 0 ≤ j ∧ j < 10 then 0 else sM σ (12 + i) j)) :=
  fill_gen (fun n x2 σ => fJ7_fill_53178_qr_5 n i 0 x2 (nI 10) σ) (12 + i) 10 10 0 (by decide) (by decide) (fun _ _ _ => rfl) 10 FU_ 0 σ rfl (by decide)
theorem fill3_s (σ : St_) : fJ7_fill_53178_q3 0 σ = some (uA σ 3 (fun j => if 0 ≤ j ∧ j < 10 then 0 else sM σ 3 j)) :=
  fill_gen (fun n x2 σ => fJ7_fill_53178_q3_5 n 0 x2 (nI 10) σ) 3 10 10 0 (by decide) (by decide) (fun _ _ _ => rfl) 10 FU_ 0 σ rfl (by decide)
theorem endY : ∀ d f a σ, a + d = 10 → d < f → ∃ σ2 : St_, fX4_endYear_25 f (nI a) σ = some (uS σ2 2 0) ∧ σ2.1 = σ.1 ∧ σ2.2.2 = σ.2.2 ∧ (∀ k, k < 12 → sM σ2 k = sM σ k) ∧ ∀ i v, i < 10 → v < 10 → sM σ2 (12 + i) v = if a ≤ i then 0 else sM σ (12 + i) v
  | d, 0, _, _, _, h => absurd h (Nat.not_lt_zero d)
  | 0, f + 1, a, σ, e, _ => by
    refine ⟨σ, ?_, rfl, rfl, fun _ _ => rfl, ?_⟩
    · show (if 10 ≤ nI a then fX4_endYear_47 σ else _) = _
      rw [if_pos (le_10 (by omega) (by omega))]
      rfl
    · intro i v hi _
      rw [if_neg (by omega)]
  | d + 1, f + 1, a, σ, e, h => by
    obtain ⟨σ2, h1, h2, h3, h4, h5⟩ := endY d f (a + 1) (uA σ (12 + a) (fun j => if 0 ≤ j ∧ j < 10 then 0 else sM σ (12 + a) j)) (by omega) (by omega)
    refine ⟨σ2, ?_, h2, h3, ?_, ?_⟩
    · show (if 10 ≤ nI a then fX4_endYear_47 σ else (gd_ (nI a) 10 fun j2 => (bn_ (fJ7_fill_53178_qr j2 0 σ) fun r3 => fX4_endYear_25  f (nI a + 1) r3))) = _
      rw [if_neg (nle_10 (by omega)), gd_s (by omega) (by decide), fillr_s, bn_s, nI_1, h1]
    · intro k hk
      rw [h4 k hk, sM_N _ _ (by omega)]
    · intro i v hi hv
      rw [h5 i v hi hv]
      by_cases q : a + 1 ≤ i
      · rw [if_pos q, if_pos (by omega)]
      · rw [if_neg q]
        by_cases q2 : i = a
        · subst q2
          rw [sM_A, if_pos (by omega), if_pos (by omega)]
        · rw [sM_N _ _ (by omega), if_neg (by omega)]
theorem y65 : ∀ d f a σ, a + d = 100 → d < f → ∃ τ : St_, fX6_year_65 f (nI a) σ = fX6_year_89 τ ∧ τ.1 = σ.1 ∧ (∀ k, k ≠ 18 → sM τ k = sM σ k) ∧ ∀ j, j < 100 → sM τ 18 j = if a ≤ j then vp_nar .boolean (sM σ 17 j) else sM σ 18 j
  | d, 0, _, _, _, h => absurd h (Nat.not_lt_zero d)
  | 0, f + 1, a, σ, e, _ => by
    refine ⟨σ, ?_, rfl, fun _ _ => rfl, ?_⟩
    · show (if 100 ≤ nI a then fX6_year_89 σ else _) = _
      rw [if_pos (le_100 (by omega) (by omega))]
    · intro j hj
      rw [if_neg (by omega)]
  | d + 1, f + 1, a, σ, e, h => by
    obtain ⟨σ2, h1, h2, h4, h5⟩ := y65 d f (a + 1) (uM σ 18 a (vp_nar .boolean (sM σ 17 a))) (by omega) (by omega)
    refine ⟨σ2, ?_, h2, ?_, ?_⟩
    · show (if 100 ≤ nI a then fX6_year_89 σ else (gd_ (nI a) 100 fun j7 => (gd_ (nI a) 100 fun j8 => fX6_year_65  f (nI a + 1) (uM σ 18 j8 (vp_nar .boolean (sM σ 17 j7)))))) = _
      rw [if_neg (nle_100 (by omega)), gd_s (by omega) (by decide), gd_s (by omega) (by decide), nI_1, h1]
    · intro k hk
      rw [h4 k hk]
      exact if_neg hk
    · intro j hj
      rw [h5 j hj]
      by_cases q : a + 1 ≤ j
      · rw [if_pos q, if_pos (by omega)]
        rfl
      · rw [if_neg q]
        show upd (sM σ 18) a _ j = _
        by_cases q2 : j = a
        · subst q2
          rw [upd_s, if_pos (by omega)]
        · rw [upd_n _ _ q2, if_neg (by omega)]
theorem y42 (N : Nat) (hN : N ≤ 10) : ∀ d f a σ, sS σ 2 = nI N → a + d = N → d < f → ∃ τ : St_, fX6_year_42 f (nI a) σ = fX6_year_63 τ ∧ τ.1 = σ.1 ∧ (∀ k, k ≠ 15 → sM τ k = sM σ k) ∧ ∀ j, sM τ 15 j = if a ≤ j ∧ j < N then 0 else sM σ 15 j
  | d, 0, _, _, _, _, h => absurd h (Nat.not_lt_zero d)
  | 0, f + 1, a, σ, e2, e, _ => by
    refine ⟨σ, ?_, rfl, fun _ _ => rfl, ?_⟩
    · show (if sS σ 2 ≤ nI a then fX6_year_63 σ else _) = _
      rw [e2, if_pos (nI_le (by omega) (by omega))]
    · intro j
      rw [if_neg (by omega)]
  | d + 1, f + 1, a, σ, e2, e, h => by
    obtain ⟨σ2, h1, h2, h4, h5⟩ := y42 N hN d f (a + 1) (uM σ 15 a 0) e2 (by omega) (by omega)
    refine ⟨σ2, ?_, h2, ?_, ?_⟩
    · show (if sS σ 2 ≤ nI a then fX6_year_63 σ else (gd_ (nI a) 10 fun j5 => fX6_year_42 f (nI a + 1) (uM σ 15 j5 0))) = _
      rw [e2, if_neg (nI_ge (by omega) (by omega)), gd_s (by omega) (by decide), nI_1, h1]
    · intro k hk
      rw [h4 k hk]
      exact if_neg hk
    · intro j
      rw [h5 j]
      by_cases q : a + 1 ≤ j ∧ j < N
      · rw [if_pos q, if_pos (by omega)]
      · rw [if_neg q]
        show upd (sM σ 15) a _ j = _
        by_cases q2 : j = a
        · subst q2
          rw [upd_s, if_pos (by omega)]
        · rw [upd_n _ _ q2, if_neg (by omega)]
