theorem T_year {σx σm : St_} (h : Inv_ σx σm) : ∃ r σx2 σm2, fX5_year σx = some (r, σx2) ∧ fX6_year σm = some (r, σm2) ∧ Inv_ σx2 σm2 := by
  have hn := h.1.1
  obtain ⟨y, hy, y1, y2⟩ := h.2.1
  obtain ⟨l1, l2⟩ := h.2.2.1
  unfold fX5_year fX6_year fX4_areLaid
  rw [gz_ok (show b01 (sS σx 2) by rw [l2]; exact l1), bn_s, l2, y1, y2]
  by_cases q0 : sS σm 4 = 0
  · rw [if_pos q0, if_pos q0]
    exact ⟨-1, σx, σm, rfl, rfl, h⟩
  have q1 : sS σm 4 = 1 := l1.resolve_left q0
  rw [if_neg q0, if_neg q0]
  by_cases q5 : y = 500
  · subst q5
    rw [if_neg (show ¬ nI 500 < 500 by decide), if_pos (show nI 500 = 500 from rfl)]
    exact ⟨-1, σx, σm, rfl, rfl, h⟩
  rw [if_pos (show nI y < 500 from nI_lt (b := 500) (by omega) (by decide)), if_neg (show ¬ nI y = 500 from fun z => q5 ((nI_eq (a := y) (b := 500) (by omega) (by decide)).mp z))]
  obtain ⟨x2, m2, hL, a1, a2, a3, a4, a5⟩ := year_loop (sN σx) (sN σx) FU_ FU_ 0 σx σm rfl (by omega) (by show sN σx < 300; omega) (by show sN σx < 300; omega) (Ly_0 h)
  rw [show fX5_year_24 FU_ 0 σx = fX5_year_91 x2 from a4, show fX6_year_21 FU_ 0 σm = fX6_year_40 m2 from a5]
  obtain ⟨g1, g2, g3, g4, g5, g6, g7, g8, g9, g10, g11, g12, g13⟩ := hL.1
  have gN : sN (yF (sN σx) x2 m2) = sN σx := a2
  rw [gN] at g6 g7 g11
  obtain ⟨x4, b1, b2, b3, b4, b5⟩ := endY 10 FU_ 0 (uA (uA x2 4 (va_cpy (sM x2 3) (sM x2 4) 0 0 10)) 3 (fun j => if 0 ≤ j ∧ j < 10 then 0 else sM (uA x2 4 (va_cpy (sM x2 3) (sM x2 4) 0 0 10)) 3 j)) rfl (by decide)
  obtain ⟨m4, c1, c2, c3, c4⟩ := y42 (sN σx) hn (sN σx) FU_ 0 m2 (g1.2.2.trans (by rw [gN])) (by omega) (by show sN σx < 300; omega)
  obtain ⟨m5, d1, d2, d3, d4⟩ := y65 100 FU_ 0 m4 rfl (by decide)
  have eX : fX5_year_91 x2 = some (sS (uS (uS x4 2 0) 6 ((sS (uS x4 2 0) 6) + 1)) 6, uS (uS x4 2 0) 6 ((sS (uS x4 2 0) 6) + 1)) := by
    unfold fX5_year_91 fX4_endYear
    rw [fill3_s, bn_s, show fX4_endYear_25 FU_ 0 _ = _ from b1, bn_s]
  have eM : fX6_year_40 m2 = fX6_year_89 m5 := by
    unfold fX6_year_40
    rw [show fX6_year_42 FU_ 0 m2 = _ from c1]
    unfold fX6_year_63
    exact d1
  have sx : ∀ a, sS x4 a = sS σx a := fun a => (congrFun b2 a).trans (congrFun a1 a)
  have sm' : ∀ a, sS m5 a = sS σm a := fun a => ((congrFun d2 a).trans (congrFun c2 a)).trans (congrFun a3 a)
  have nx : sN x4 = sN σx := (congrArg (fun z : Nat × (Nat → Nat → Int32) => z.1) b3).trans a2
  have fx : ∀ i j, sF x4 i j = sF x2 i j := fun i j => congrFun (congrFun (congrArg (fun z : Nat × (Nat → Nat → Int32) => z.2) b3) i) j
  have mx : ∀ a, a ≠ 3 → a ≠ 4 → a < 12 → sM x4 a = sM x2 a := fun a h1 h2 h3 => by
    rw [b4 a h3, sM_N _ _ h1, sM_N _ _ h2]
  have mm : ∀ a, a ≠ 15 → a ≠ 18 → sM m5 a = sM m2 a := fun a h1 h2 => (d3 a h2).trans (c3 a h1)
  rw [eX, eM]
  have r6 : sS (uS (uS x4 2 0) 6 ((sS (uS x4 2 0) 6) + 1)) 6 = nI (y + 1) := by
    show sS x4 6 + 1 = _
    rw [sx 6, y1, nI_1]
  have r3 : sS (uS (uS m5 4 0) 3 ((sS (uS m5 4 0) 3) + 1)) 3 = nI (y + 1) := by
    show sS m5 3 + 1 = _
    rw [sm' 3, y2, nI_1]
  unfold fX6_year_89
  rw [r6, r3]
  refine ⟨_, _, _, rfl, rfl, ?_⟩
  have e6 : sS (uS x4 2 0) 6 + 1 = nI (y + 1) := r6
  have e3 : sS (uS m5 4 0) 3 + 1 = nI (y + 1) := r3
  rw [e6, e3]
  have hv : ∀ v f, vis (uS (uS m5 4 0) 3 (nI (y + 1))) v f = false := fun v f => rfl
  have lv : ∀ v f, vis m2 v f = tt (sM m2 17 (10 * v + f)) := fun v f => by
    unfold vis
    rw [show sS m2 4 = 1 from (congrFun a3 4).trans q1]
    rfl
  refine ⟨⟨?_, ?_, ?_⟩, ⟨y + 1, by omega, rfl, rfl⟩, ⟨Or.inl rfl, rfl⟩, ?_, ?_, ?_, ?_, ?_, ?_, ?_, ?_, ?_, ?_⟩
  · show sN x4 ≤ 10
    rw [nx]; exact hn
  · show sS x4 5 = nI (sN x4)
    rw [sx, nx]; exact h.1.2.1
  · show sS m5 2 = nI (sN x4)
    rw [sm', nx]; exact h.1.2.2
  · show ∃ t : Nat, t ≤ 60 ∧ sS x4 0 = nI t ∧ sS m5 1 = nI t ∧ ∀ j, j < t → ∃ b : Nat, b < 256 ∧ sM x4 0 j = nI b ∧ sM m5 0 j = sb_b b
    rw [sx, sm', mx 0 (by decide) (by decide) (by decide), mm 0 (by decide) (by decide)]
    obtain ⟨t, t1, t2, t3, t4⟩ := g4
    exact ⟨t, t1, (congrFun a1 0).symm.trans t2, (congrFun a3 1).symm.trans t3, t4⟩
  · show (∀ j, j < 6 → sM x4 1 j = sM m5 5 j) ∧ ∃ N V : Nat, N ≤ 5 ∧ V ≤ 9 ∧ sM m5 5 0 = nI N ∧ sM m5 5 1 = nI V
    rw [mx 1 (by decide) (by decide) (by decide), mm 5 (by decide) (by decide)]
    exact g5
  · intro i hi
    have hi : i < sN σx := by rw [← nx]; exact hi
    show (sF x4 i 0 = sM m5 7 i ∧ sF x4 i 1 = sM m5 8 i ∧ sF x4 i 2 = sM m5 10 i ∧ sF x4 i 3 = sM m5 11 i ∧ sF x4 i 4 = sM m5 12 i ∧ sF x4 i 5 = sM m5 13 i ∧ sF x4 i 6 = sM m5 15 i ∧ sF x4 i 7 = sM m5 14 i) ∧ b01 (sM m5 10 i) ∧ ∃ z : Nat, z ≤ 2 ∧ sM m5 11 i = nI z
    obtain ⟨⟨f0, f1, f2, f3, f4, f5, f6, f7⟩, fb, fz⟩ := g6 i hi
    have ey : ∀ j, j ≠ 6 → sF (yF (sN σx) x2 m2) i j = sF x2 i j := fun j hj => if_neg (fun z => hj z.1)
    rw [ey 0 (by decide)] at f0
    rw [ey 1 (by decide)] at f1
    rw [ey 2 (by decide)] at f2
    rw [ey 3 (by decide)] at f3
    rw [ey 4 (by decide)] at f4
    rw [ey 5 (by decide)] at f5
    rw [ey 7 (by decide)] at f7
    rw [fx, fx, fx, fx, fx, fx, fx, fx, mm 7 (by decide) (by decide), mm 8 (by decide) (by decide), mm 10 (by decide) (by decide), mm 11 (by decide) (by decide), mm 12 (by decide) (by decide), mm 13 (by decide) (by decide), mm 14 (by decide) (by decide), d3 15 (by decide), c4 i, if_pos ⟨Nat.zero_le i, hi⟩]
    exact ⟨⟨f0, f1, f2, f3, f4, f5, hL.2 i hi, f7⟩, fb, fz⟩
  · intro i hi hi10
    have hi : sN σx ≤ i := by rw [← nx]; exact hi
    show sM m5 10 i = 0 ∧ sM m5 11 i = 0 ∧ sM m5 12 i = 0 ∧ sM m5 13 i = 0 ∧ sM m5 14 i = 0 ∧ sM m5 15 i = 0
    rw [mm 10 (by decide) (by decide), mm 11 (by decide) (by decide), mm 12 (by decide) (by decide), mm 13 (by decide) (by decide), mm 14 (by decide) (by decide), d3 15 (by decide), c4 i, if_neg (by omega)]
    exact g7 i hi hi10
  · show ∀ a b, a < 10 → b < 10 → b01 (sM m5 16 (10 * a + b)) ∧ bt (sM x4 10 a) b = tt (sM m5 16 (10 * a + b))
    rw [mx 10 (by decide) (by decide) (by decide), mm 16 (by decide) (by decide)]
    exact g8
  · show ∀ p, p < 8 → sM x4 11 p = sM m5 9 p
    rw [mx 11 (by decide) (by decide) (by decide), mm 9 (by decide) (by decide)]
    exact g9
  · intro f hf
    show (∀ i, 10 ≤ i → bt (sM x4 3 f) i = false) ∧ ∀ v, v < 10 → bt (sM x4 3 f) v = _
    rw [b4 3 (by decide), sM_A, if_pos (by omega)]
    exact ⟨fun i _ => b_0 i, fun v _ => b_0 v⟩
  · intro v f hv' hf'
    show b01 (sM m5 17 (10 * v + f)) ∧ _
    rw [mm 17 (by decide) (by decide)]
    exact ⟨(g11 v f hv' hf').1, fun q => by rw [hv] at q; cases q⟩
  · intro v f hv' hf'
    show b01 (sM m5 18 (10 * v + f)) ∧ bt (sM x4 4 f) v = tt (sM m5 18 (10 * v + f))
    rw [d4 _ (by omega), if_pos (Nat.zero_le _), c3 17 (by decide), nar_b (g11 v f hv' hf').1, b4 4 (by decide), sM_N _ _ (by decide), sM_A, sb_cpy0 hf', ← lv]
    exact ⟨(g11 v f hv' hf').1, (g10 f hf').2 v hv'⟩
  · intro v f hv' hf'
    rw [hv, if_neg (by decide)]
    refine ⟨?_, fun q => by cases q⟩
    show sM x4 (12 + f) v = 0
    rw [b5 f v hf' hv', if_pos (Nat.zero_le f)]
