/-! LAY -/
theorem x105 {n : Nat} (hn : n ≤ 10) : ∀ d fu f σ, f + d = n → d < fu → sS σ 5 = nI n → ∃ σ', fX5_lay_105 fu (nI f) σ = fX5_lay_135 σ' ∧ σ'.1 = σ.1 ∧ σ'.2.2 = σ.2.2 ∧ (∀ a, a ≠ 3 → sM σ' a = sM σ a) ∧ ∀ j, sM σ' 3 j = if f ≤ j ∧ j < n then sM σ 8 j else sM σ 3 j
  | d, 0, _, _, _, h, _ => absurd h (Nat.not_lt_zero d)
  | 0, fu + 1, f, σ, hf, _, e5 => by
    refine ⟨σ, ?_, rfl, rfl, fun _ _ => rfl, ?_⟩
    · show (if sS σ 5 ≤ nI f then fX5_lay_135 σ else _) = _
      rw [e5, if_pos (nI_le (by omega) (by omega))]
    · intro j
      rw [if_neg (by omega)]
  | d + 1, fu + 1, f, σ, hf, hfu, e5 => by
    have eq : fX5_lay_105 (fu + 1) (nI f) σ = (if (sS σ 5) ≤ nI f then fX5_lay_135  σ else (bn_ (fX1_visitorsOf (nI f) σ) fun r13 => (bn_ (fX4_setVisitors (nI f) r13 σ) fun r14 => fX5_lay_105  fu (nI f + 1) r14))) := rfl
    unfold fX1_visitorsOf fX4_setVisitors at eq
    rw [e5, if_neg (nI_ge (by omega) (by omega)), gd_s (by omega) (by decide), bn_s, gd_s (by omega) (by decide), bn_s, nI_1] at eq
    obtain ⟨σ', r1, r2, r3, r4, r5⟩ := x105 hn d fu (f + 1) (uM σ 3 f (sM σ 8 f)) (by omega) (by omega) e5
    refine ⟨σ', eq.trans r1, r2, r3, ?_, ?_⟩
    · intro a ha
      rw [r4 a ha]
      exact if_neg ha
    · intro j
      rw [r5 j]
      by_cases q : f + 1 ≤ j ∧ j < n
      · rw [if_pos q, if_pos (by omega)]
        rfl
      · rw [if_neg q]
        show upd (sM σ 3) f (sM σ 8 f) j = _
        by_cases e : j = f
        · rw [e, upd_s, if_pos (by omega)]
        · rw [upd_n _ _ e, if_neg (by omega)]
theorem m174 (x1 : Int32) : ∀ d fu k σ, k + d = 100 → d < fu → ∃ σ', fX6_lay_174 fu x1 (nI k) σ = fX6_lay_205 x1 σ' ∧ σ'.1 = σ.1 ∧ (∀ a, a ≠ 17 → a ≠ 19 → sM σ' a = sM σ a) ∧ (∀ j, j < 100 → sM σ' 17 j = if k ≤ j then vp_nar .boolean (sM σ 20 j) else sM σ 17 j) ∧ ∀ j, j < 100 → sM σ' 19 j = if k ≤ j then 0 else sM σ 19 j
  | d, 0, _, _, _, h => absurd h (Nat.not_lt_zero d)
  | 0, fu + 1, k, σ, hk, _ => by
    refine ⟨σ, ?_, rfl, fun _ _ _ => rfl, fun j h1 => (by rw [if_neg (by omega)]), fun j h1 => (by rw [if_neg (by omega)])⟩
    show (if 100 ≤ nI k then fX6_lay_205 x1 σ else _) = _
    rw [if_pos (le_100 (by omega) (by omega))]
  | d + 1, fu + 1, k, σ, hk, hfu => by
    have eq : fX6_lay_174 (fu + 1) x1 (nI k) σ = (if 100 ≤ nI k then fX6_lay_205  x1 σ else (gd_ (nI k) 100 fun j18 => (gd_ (nI k) 100 fun j19 => (gd_ (nI k) 100 fun j20 => fX6_lay_174  fu x1 (nI k + 1) (uM (uM σ 17 j19 (vp_nar .boolean (sM σ 20 j18))) 19 j20 0))))) := rfl
    rw [if_neg (nle_100 (by omega)), gd_s (by omega) (by decide), gd_s (by omega) (by decide), gd_s (by omega) (by decide), nI_1] at eq
    obtain ⟨σ', r1, r2, r3, r4, r5⟩ := m174 x1 d fu (k + 1) (uM (uM σ 17 k (vp_nar .boolean (sM σ 20 k))) 19 k 0) (by omega) (by omega)
    refine ⟨σ', eq.trans r1, r2, ?_, ?_, ?_⟩
    · intro a h1 h2
      rw [r3 a h1 h2]
      exact (if_neg h2).trans (if_neg h1)
    · intro j hj
      rw [r4 j hj]
      by_cases q : k + 1 ≤ j
      · rw [if_pos q, if_pos (by omega)]
        rfl
      · rw [if_neg q]
        show upd (sM σ 17) k _ j = _
        by_cases e : j = k
        · rw [e, upd_s, if_pos (Nat.le_refl k)]
        · rw [upd_n _ _ e, if_neg (by omega)]
    · intro j hj
      rw [r5 j hj]
      by_cases q : k + 1 ≤ j
      · rw [if_pos q, if_pos (by omega)]
      · rw [if_neg q]
        show upd (sM σ 19) k 0 j = _
        by_cases e : j = k
        · rw [e, upd_s, if_pos (Nat.le_refl k)]
        · rw [upd_n _ _ e, if_neg (by omega)]
theorem Ek_0 (m : St_) (n : Nat) : Ek m n 0 0 = M00 := by
  funext a c
  unfold Ek
  rw [decide_eq_false (by omega), Bool.and_false]
  rfl
theorem Ek_n (m : St_) (n : Nat) : Ek m n n 0 = Ea m n := by
  funext a c
  unfold Ek
  cases h : Ea m n a c
  · rfl
  · have h2 : a < n ∧ c < n := by
      unfold Ea at h
      rw [Bool.and_eq_true] at h
      exact of_decide_eq_true h.1
    rw [decide_eq_true (by omega)]
    rfl
theorem Ea_n {m : St_} {n a c : Nat} (h : Ea m n a c = true) : a < n ∧ c < n := by
  unfold Ea at h
  rw [Bool.and_eq_true] at h
  exact of_decide_eq_true h.1
theorem T_lay {σx σm : St_} (h : Inv_ σx σm)  : ∃ r σx2 σm2, fX5_lay  σx = some (r, σx2) ∧ fX6_lay  σm = some (r, σm2) ∧ Inv_ σx2 σm2 := by
  have hn := h.1.1
  obtain ⟨l1, l2⟩ := h.2.2.1
  obtain ⟨hr, N, V, hN, hV, eN, eV⟩ := h.2.2.2.2.1
  unfold fX5_lay fX6_lay fX4_areLaid
  rw [gz_ok (show b01 (sS σx 2) by rw [l2]; exact l1), bn_s, l2]
  by_cases q0 : sS σm 4 = 0
  · rw [if_pos q0, if_pos q0, show (0 : Int32) = nI 0 from rfl, number_s _ (by decide), bn_s, show (1 : Int32) = nI 1 from rfl, number_s _ (by decide), bn_s, hr 0 (by decide), hr 1 (by decide), eN, eV]
    obtain ⟨x1, a1, a2, a3⟩ := begin_s σx hN hV
    rw [a1, bn_s]
    have hI1 : Inv_ (uS (uS σx 3 (nI N)) 4 (nI V)) σm := h
    obtain ⟨x2, T, U, b1, b2, b3⟩ := x37 (n := sN σx) hI1 rfl (sN σx) FU_ 0 x1 _ _ (by omega) (by show sN σx < 300; omega) a2 (by rw [Ek_0]; exact a3)
    rw [Ek_n] at b3
    have hF0 : Fe V N M00 := ⟨fun v _ => by rw [row00]; exact Nat.zero_le _, fun f _ => by rw [col00]; exact Nat.zero_le _⟩
    obtain ⟨x3, M, c1, c2, c3, c4, c5, c6⟩ := planMost_s (M0 := M00) FU_ 0 x2 M00 b3 hF0 (fun _ _ _ => rfl) (Nat.zero_le _) (by decide) (by decide)
    obtain ⟨m1, d1, d2, d3⟩ := m11 (m := σm) hn h.1.2.2 100 FU_ 0 σm rfl (by decide) (Fq_r σm) (fun a c _ _ hl => absurd hl (Nat.not_lt_zero _))
    have hG1 : Gp m1 M00 (Ea σm (sN σx)) (sN σx) N V := by
      refine ⟨⟨(congrFun d2.1 2).trans h.1.2.2, hn, ?_, ?_, hN, hV⟩, fun v f hv hf => (d3 v f hv hf).1, fun v f hv hf => (d3 v f hv hf).2, fun v f q => Ea_n q, fun _ _ _ => rfl⟩
      · rw [d2.2.2 5 (by decide)]; exact eN
      · rw [d2.2.2 5 (by decide)]; exact eV
    obtain ⟨r, m2, e1, e2, e3⟩ := most_s hG1
    have hr2 : r = nI (tot M) := by
      rcases e3 with ⟨-, z⟩ | ⟨Ms, k1, k2, k3, k4⟩
      · exact absurd c4 (z M (fun v f _ _ q => c5 v f q))
      · have p1 := c6 Ms k2 (fun v f _ _ q => k3 v f q)
        have p2 := k4 M c4 (fun v f _ _ q => c5 v f q)
        rw [k1, show tot Ms = tot M by omega]
    obtain ⟨x4, m3, M', P', A', f1, f2, f3, f4, f5, f6⟩ := rows2 (E := Ea σm (sN σx)) (n := sN σx) (N := N) (V := V) (Tm := tot M) (T := T) (U := U) (fun M2 z1 z2 => c6 M2 z1 (fun a c ha hc q => z2 a c ha hc q)) hn (sN σx) FU_ FU_ 0 x3 m2 M M00 (Ea σm (sN σx)) (by omega) (by show sN σx < 300; omega) (by show sN σx < 300; omega) ⟨c3, c4, rfl, Gp_fr e2 hG1, c5, fun _ _ q => q, fun _ _ q => (by cases q)⟩ (fun a c _ => by omega)
    obtain ⟨g1, g2, g3, g4, g5, g6, g7⟩ := f1
    have hA' : ∀ a c, A' a c = false := by
      intro a c
      cases z : A' a c
      · rfl
      · have h1 := g4.2.2.2.1 a c z
        have h2 := f2 a c z
        omega
    have hMP : ∀ a c, M' a c = P' a c := fun a c => g5 a c (hA' a c)
    have frx : Fr (uS (uS σx 3 (nI N)) 4 (nI V)) x4 := Fr_t (Fr_t b2 c2) f3
    have fqm : Fq σm m3 := Fq_t (Fq_t d2 (Fq_m e2)) f4
    have s5 : sS x3 5 = nI (sN σx) := (congrFun (Fr_t b2 c2).1 5).trans h.1.2.1
    obtain ⟨x5, i1, i2, i3, i4, i5⟩ := x105 hn (sN σx) FU_ 0 x4 (by omega) (by show sN σx < 300; omega) ((congrFun frx.1 5).trans h.1.2.1)
    obtain ⟨m5, j1, j2, j3, j4, j5⟩ := m174 (nI (tot M)) 100 FU_ 0 m3 rfl (by decide)
    have eX : fX5_lay_85 x2 = fX5_lay_135 x5 := by
      unfold fX5_lay_85 fX1_planMost fX1_planLeastRow
      rw [show fX1_planMost_2 FU_ 0 x2 = _ from c1, bn_s, s5, show fX1_planLeastRow_2 FU_ (nI (sN σx)) 0 x3 = _ from f5, bn_s]
      exact i1
    have eM : fX6_lay_11 FU_ (nI 0) σm = some (nI (tot M), uS m5 4 1) := by
      rw [d1]
      unfold fX6_lay_78
      rw [e1, bn_s]
      dsimp only
      rw [hr2, show fX6_lay_85 FU_ (nI (tot M)) 0 m2 = _ from f6]
      unfold fX6_lay_172
      rw [show fX6_lay_174 FU_ (nI (tot M)) 0 m3 = _ from j1]
      rfl
    have P01 : ∀ v f, v < 10 → f < 10 → sM m5 17 (10 * v + f) = nI (n1 (P' v f)) := by
      intro v f hv hf
      rw [j4 _ (by omega), if_pos (Nat.zero_le _), g4.2.1 v f hv hf]
      cases P' v f
      · exact nar0
      · exact nar1
    have vE : ∀ v f, v < 10 → f < 10 → vis (uS m5 4 1) v f = P' v f := by
      intro v f hv hf
      show (tt 1 && tt (sM m5 17 (10 * v + f))) = _
      rw [P01 v f hv hf]
      cases P' v f <;> rfl
    have nvis : ∀ v f, vis σm v f = false := by
      intro v f
      unfold vis
      rw [q0]
      rfl
    have fin : Inv_ (uS x5 2 1) (uS m5 4 1) := by
      obtain ⟨h1, h2, h3, h4, h5, h6, h7, h8, h9, h10, h11, h12, h13⟩ := h
      have sx : ∀ a, a ≠ 3 → a ≠ 4 → sS x5 a = sS σx a := fun a z3 z4 => ((congrFun i2 a).trans (congrFun frx.1 a)).trans ((if_neg z4).trans (if_neg z3))
      have nx : sN x5 = sN σx := (congrArg (fun z : Nat × (Nat → Nat → Int32) => z.1) i3).trans (congrArg (fun z : Nat × (Nat → Nat → Int32) => z.1) frx.2.1)
      have fx : ∀ i j, sF x5 i j = sF σx i j := fun i j => (congrFun (congrFun (congrArg (fun z : Nat × (Nat → Nat → Int32) => z.2) i3) i) j).trans (congrFun (congrFun (congrArg (fun z : Nat × (Nat → Nat → Int32) => z.2) frx.2.1) i) j)
      have mx : ∀ a, a ≠ 3 → (a < 5 ∨ 9 < a) → sM x5 a = sM σx a := fun a z3 z => (i4 a z3).trans (frx.2.2 a z)
      have sm' : ∀ a, sS m5 a = sS σm a := fun a => (congrFun j2 a).trans (congrFun fqm.1 a)
      have mm : ∀ a, a ≠ 17 → a ≠ 19 → a < 20 → sM m5 a = sM σm a := fun a z1 z2 z3 => (j3 a z1 z2).trans (fqm.2.2 a (Or.inl z3))
      refine ⟨⟨?_, ?_, ?_⟩, ?_, ⟨Or.inr rfl, rfl⟩, ?_, ?_, ?_, ?_, ?_, ?_, ?_, ?_, ?_, ?_⟩
      · show sN x5 ≤ 10
        rw [nx]; exact hn
      · show sS x5 5 = nI (sN x5)
        rw [sx 5 (by decide) (by decide), nx]; exact h1.2.1
      · show sS m5 2 = nI (sN x5)
        rw [sm', nx]; exact h1.2.2
      · show ∃ y : Nat, y ≤ 500 ∧ sS x5 6 = nI y ∧ sS m5 3 = nI y
        rw [sx 6 (by decide) (by decide), sm']; exact h2
      · show ∃ t : Nat, t ≤ 60 ∧ sS x5 0 = nI t ∧ sS m5 1 = nI t ∧ ∀ j, j < t → ∃ b : Nat, b < 256 ∧ sM x5 0 j = nI b ∧ sM m5 0 j = sb_b b
        rw [sx 0 (by decide) (by decide), sm', mx 0 (by decide) (by decide), mm 0 (by decide) (by decide) (by decide)]
        exact h4
      · show (∀ j, j < 6 → sM x5 1 j = sM m5 5 j) ∧ ∃ N V : Nat, N ≤ 5 ∧ V ≤ 9 ∧ sM m5 5 0 = nI N ∧ sM m5 5 1 = nI V
        rw [mx 1 (by decide) (by decide), mm 5 (by decide) (by decide) (by decide)]
        exact h5
      · intro i hi
        have hi' : i < sN σx := by rw [← nx]; exact hi
        show (sF x5 i 0 = sM m5 7 i ∧ sF x5 i 1 = sM m5 8 i ∧ sF x5 i 2 = sM m5 10 i ∧ sF x5 i 3 = sM m5 11 i ∧ sF x5 i 4 = sM m5 12 i ∧ sF x5 i 5 = sM m5 13 i ∧ sF x5 i 6 = sM m5 15 i ∧ sF x5 i 7 = sM m5 14 i) ∧ b01 (sM m5 10 i) ∧ ∃ z : Nat, z ≤ 2 ∧ sM m5 11 i = nI z
        rw [fx, fx, fx, fx, fx, fx, fx, fx, mm 7 (by decide) (by decide) (by decide), mm 8 (by decide) (by decide) (by decide), mm 10 (by decide) (by decide) (by decide), mm 11 (by decide) (by decide) (by decide), mm 12 (by decide) (by decide) (by decide), mm 13 (by decide) (by decide) (by decide), mm 14 (by decide) (by decide) (by decide), mm 15 (by decide) (by decide) (by decide)]
        exact h6 i hi'
      · intro i hi hi10
        have hi' : sN σx ≤ i := by rw [← nx]; exact hi
        show sM m5 10 i = 0 ∧ sM m5 11 i = 0 ∧ sM m5 12 i = 0 ∧ sM m5 13 i = 0 ∧ sM m5 14 i = 0 ∧ sM m5 15 i = 0
        rw [mm 10 (by decide) (by decide) (by decide), mm 11 (by decide) (by decide) (by decide), mm 12 (by decide) (by decide) (by decide), mm 13 (by decide) (by decide) (by decide), mm 14 (by decide) (by decide) (by decide), mm 15 (by decide) (by decide) (by decide)]
        exact h7 i hi' hi10
      · show ∀ a b, a < 10 → b < 10 → b01 (sM m5 16 (10 * a + b)) ∧ bt (sM x5 10 a) b = tt (sM m5 16 (10 * a + b))
        rw [mx 10 (by decide) (by decide), mm 16 (by decide) (by decide) (by decide)]
        exact h8
      · show ∀ p, p < 8 → sM x5 11 p = sM m5 9 p
        rw [mx 11 (by decide) (by decide), mm 9 (by decide) (by decide) (by decide)]
        exact h9
      · intro f hf
        show (∀ i, 10 ≤ i → bt (sM x5 3 f) i = false) ∧ ∀ v, v < 10 → bt (sM x5 3 f) v = _
        rw [i5 f]
        by_cases q : f < sN σx
        · rw [if_pos ⟨Nat.zero_le f, q⟩]
          refine ⟨fun i hi => ?_, fun v hv => ?_⟩
          · rw [g1.2.1 f hf i, decide_eq_false (by omega), Bool.false_and]
          · rw [g1.2.1 f hf v, decide_eq_true hv, Bool.true_and, vE v f hv hf, hMP]
        · rw [if_neg (fun z => q z.2), frx.2.2 3 (by decide)]
          refine ⟨(h10 f hf).1, fun v hv => ?_⟩
          rw [vE v f hv hf]
          refine Eq.trans ((h10 f hf).2 v hv) ?_
          rw [nvis]
          cases z : P' v f
          · rfl
          · exact absurd (Ea_n (g7 v f z)).2 q
      · intro v f hv hf
        refine ⟨?_, fun z => ?_⟩
        · show b01 (sM m5 17 (10 * v + f))
          rw [P01 v f hv hf]
          cases P' v f
          · exact Or.inl rfl
          · exact Or.inr rfl
        · rw [vE v f hv hf] at z
          show v < sN x5 ∧ f < sN x5
          rw [nx]
          exact Ea_n (g7 v f z)
      · show ∀ v f, v < 10 → f < 10 → b01 (sM m5 18 (10 * v + f)) ∧ bt (sM x5 4 f) v = tt (sM m5 18 (10 * v + f))
        rw [mx 4 (by decide) (by decide), mm 18 (by decide) (by decide) (by decide)]
        exact h12
      · intro v f hv hf
        have e19 : sM (uS m5 4 1) 19 (10 * v + f) = 0 := by
          show sM m5 19 (10 * v + f) = 0
          rw [j5 _ (by omega), if_pos (Nat.zero_le _)]
        rw [e19, ite_self]
        refine ⟨?_, fun _ => ⟨0, by decide, rfl⟩⟩
        show sM x5 (12 + f) v = 0
        rw [mx (12 + f) (by omega) (by omega), (h13 v f hv hf).1, nvis, if_neg (by decide)]
    have tX := (total_eq fin).1
    rw [show sm (fun f => cn (fun v => vis (uS m5 4 1) v f) 10) 10 = tot M from by
      rw [← g3]
      exact tot_c (M := fun v f => vis (uS m5 4 1) v f) (fun v f hv hf => (vE v f hv hf).trans (hMP v f).symm)] at tX
    refine ⟨nI (tot M), _, _, ?_, eM, fin⟩
    rw [show fX5_lay_37 FU_ (nI 0) x1 = _ from b1, eX]
    unfold fX5_lay_135 fX4_setLaid
    rw [bn_s, show fX4_total (uS x5 2 1) = _ from tX]
    rfl
  · rw [if_neg q0, if_neg q0]
    exact ⟨-1, σx, σm, rfl, rfl, h⟩
