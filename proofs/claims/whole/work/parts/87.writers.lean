/-! THE WRITERS: weight, sell, buys, farm, tells, feed -/
theorem upd_s (f : Nat → Int32) (k : Nat) (v : Int32) : upd f k v k = v := if_pos rfl
theorem upd_n (f : Nat → Int32) {k j : Nat} (v : Int32) (h : j ≠ k) : upd f k v j = f j := if_neg h
theorem ix2 (x : Int32) (n : Nat) (hn : n < 2 ^ 30) : (∃ j, j < n ∧ x = nI j ∧ fX5_isBelow x (nI n) = some 1 ∧ fX6_lies x 0 (nI n - 1) = some 1) ∨ (fX5_isBelow x (nI n) = some 0 ∧ fX6_lies x 0 (nI n - 1) = some 0) := by
  rcases pk_ix x (n := n) (by omega) with q | q | ⟨j, hj, rfl⟩
  · exact Or.inr ⟨isBelow_0 (Or.inl q), lies_0 hn (Or.inl q)⟩
  · exact Or.inr ⟨isBelow_0 (Or.inr q), lies_0 hn (Or.inr q)⟩
  · refine Or.inl ⟨j, hj, rfl, isBelow_1 hj (by omega), ?_⟩
    have e : nI n - 1 = nI (n - 1) := pk_sub (a := n) (b := 1) (by omega)
    rw [e]
    exact lies_1 (Nat.zero_le j) (by omega) (by omega)
theorem T_weight {σx σm : St_} (h : Inv_ σx σm) (x1 x2 : Int32) : ∃ r σx2 σm2, fX5_weight x1 x2 σx = some (r, σx2) ∧ fX6_weight x1 x2 σm = some (r, σm2) ∧ Inv_ σx2 σm2 := by
  unfold fX5_weight fX6_weight
  rw [show (7 : Int32) = nI 8 - 1 from by decide, show (8 : Int32) = nI 8 from rfl]
  rcases ix2 x1 8 (by decide) with ⟨j, hj, rfl, e1, e2⟩ | ⟨e1, e2⟩
  · rw [e1, e2, bn_s, bn_s, if_neg (show ¬ (1 : Int32) = 0 by decide), if_neg (show ¬ (1 : Int32) = 0 by decide)]
    unfold fX6_lies
    by_cases h1 : x2 < 1
    · rw [if_pos h1, if_pos h1]
      exact ⟨0, σx, σm, rfl, rfl, h⟩
    · rw [if_neg h1, if_neg h1]
      by_cases h2 : x2 ≤ 99
      · rw [if_pos h2, if_neg (Int32.not_lt.mpr h2), bn_s, if_neg (show ¬ (1 : Int32) = 0 by decide), gd_s hj (by decide), gd_s hj (by decide)]
        refine ⟨1, _, _, rfl, rfl, ?_⟩
        obtain ⟨h1, h2, h3, h4, h5, h6, h7, h8, h9, h10, h11, h12, h13⟩ := h
        refine ⟨h1, h2, h3, h4, h5, h6, h7, h8, ?_, h10, h11, h12, fun v f hv hf => ⟨(congrFun (sM_N σx (k := 11) (a := 12 + f) _ (by omega)) v).trans (h13 v f hv hf).1, (h13 v f hv hf).2⟩⟩
        intro p hp
        show upd (sM σx 11) j x2 p = upd (sM σm 9) j x2 p
        by_cases e : p = j
        · subst e
          rw [upd_s, upd_s]
        · rw [upd_n _ _ e, upd_n _ _ e, h9 p hp]
      · rw [if_neg h2, if_pos (Int32.not_le.mp h2)]
        exact ⟨0, σx, σm, rfl, rfl, h⟩
  · rw [e1, e2]
    exact ⟨0, σx, σm, rfl, rfl, h⟩
theorem T_sell {σx σm : St_} (h : Inv_ σx σm) (x1 x2 : Int32) : ∃ r σx2 σm2, fX5_sell x1 x2 σx = some (r, σx2) ∧ fX6_sell x1 x2 σm = some (r, σm2) ∧ Inv_ σx2 σm2 := by
  have hn := h.1.1
  unfold fX5_sell fX6_sell
  rcases F_ix h x1 with ⟨j, hj, rfl⟩ | ⟨e1, e2⟩
  · rw [F_at h hj, (F_in h hj).2, bn_s, bn_s]
    dsimp only
    rw [if_neg (show ¬ (1 : Int32) = 0 by decide)]
    unfold fX6_lies
    by_cases h1 : x2 < 1
    · rw [if_pos h1, if_pos h1]
      exact ⟨0, σx, σm, rfl, rfl, h⟩
    · rw [if_neg h1, if_neg h1]
      by_cases h2 : 10000 < x2
      · rw [if_pos h2, if_pos h2]
        exact ⟨0, σx, σm, rfl, rfl, h⟩
      · rw [if_neg h2, if_neg h2, bn_s, if_neg (show ¬ (1 : Int32) = 0 by decide)]
        obtain ⟨⟨f0, f1, f2, f3, f4, f5, f6, f7⟩, fb, fz⟩ := h.2.2.2.2.2.1 j hj
        have hj10 : j < 10 := by omega
        rw [f2]
        simp only [gd_s hj10 (by decide : 10 < 2 ^ 31)]
        by_cases h3 : sM σm 10 j = 0
        · rw [if_pos h3, if_pos h3]
          exact ⟨0, σx, σm, rfl, rfl, h⟩
        · rw [if_neg h3, if_neg h3]
          unfold fX0_sellBaskets
          rw [bn_s]
          refine ⟨1, _, _, rfl, rfl, ?_⟩
          obtain ⟨h1, h2, h3, h4, h5, h6, h7, h8, h9, h10, h11, h12, h13⟩ := h
          refine ⟨h1, h2, h3, h4, h5, ?_, ?_, h8, h9, h10, h11, h12, h13⟩
          · intro i hi
            have hi' : i < sN σx := hi
            obtain ⟨⟨g0, g1, g2, g3, g4, g5, g6, g7⟩, gb, gz⟩ := h6 i hi'
            by_cases e : i = j
            · subst e
              refine ⟨⟨?_, ?_, ?_, ?_, ?_, ?_, ?_, ?_⟩, gb, gz⟩
              · simp only [sF_uF]; exact g0
              · simp only [sF_uF]; exact g1
              · simp only [sF_uF]; exact g2
              · simp only [sF_uF]; exact g3
              · simp only [sF_uF]; exact g4
              · simp only [sF_uF]
                show _ = upd (sM σm 13) i _ i
                rw [upd_s]
                simp [g5]
              · simp only [sF_uF]
                show _ = upd (sM σm 15) i _ i
                rw [upd_s]
                simp [g6]
                rfl
              · simp only [sF_uF]; exact g7
            · refine ⟨⟨?_, ?_, ?_, ?_, ?_, ?_, ?_, ?_⟩, gb, gz⟩
              all_goals simp only [sF_uF, if_neg e]
              · exact g0
              · exact g1
              · exact g2
              · exact g3
              · exact g4
              · show _ = upd (sM σm 13) j _ i
                rw [upd_n _ _ e]; exact g5
              · show _ = upd (sM σm 15) j _ i
                rw [upd_n _ _ e]; exact g6
              · exact g7
          · intro i hi hi10
            have hi' : sN σx ≤ i := hi
            obtain ⟨z0, z1, z2, z3, z4, z5⟩ := h7 i hi' hi10
            refine ⟨z0, z1, z2, ?_, z4, ?_⟩
            · show upd (sM σm 13) j _ i = 0
              rw [upd_n _ _ (by omega)]; exact z3
            · show upd (sM σm 15) j _ i = 0
              rw [upd_n _ _ (by omega)]; exact z5
  · rw [F_no e1, e2]
    exact ⟨0, σx, σm, rfl, rfl, h⟩
theorem nar_b {x : Int32} (h : b01 x) : vp_nar .boolean x = x := by
  rcases h with rfl | rfl <;> decide +kernel
theorem b2_01 (x : Int32) : b01 (if x = 0 then 0 else 1) := by
  by_cases h : x = 0
  · rw [if_pos h]; exact Or.inl rfl
  · rw [if_neg h]; exact Or.inr rfl
theorem T_buys0 {σx σm : St_} (h : Inv_ σx σm) (x1 x2 x3 : Int32) (h3 : b01 x3) : ∃ r σx2 σm2, fX5_buys x1 x2 x3 σx = some (r, σx2) ∧ fX6_buys x1 x2 x3 σm = some (r, σm2) ∧ Inv_ σx2 σm2 := by
  have hn := h.1.1
  unfold fX5_buys fX6_buys
  rcases FF h x1 x2 with ⟨i, j, hi, hj, rfl, rfl, e1, e2, e3⟩ | ⟨e1, e2 | ⟨e2, e3⟩⟩
  · rw [e1, bn_s, if_neg (show ¬ (1 : Int32) = 0 by decide), e2, bn_s, if_neg (show ¬ (1 : Int32) = 0 by decide), e3, bn_s, if_neg (show ¬ (1 : Int32) = 0 by decide)]
    by_cases hij : nI i = nI j
    · rw [if_pos hij, if_pos hij]
      exact ⟨0, σx, σm, rfl, rfl, h⟩
    · rw [if_neg hij, if_neg hij]
      have hB := h.2.2.2.2.2.2.2.1
      have hne : i ≠ j := fun q => hij (by rw [q])
      unfold fX5_buysFrom
      rw [gd_s (show i < 10 by omega) (by decide), hasBit_s _ (show j < 32 by omega), bn_s, gz_n1, bn_s, ix_10, gd_s (show i < 10 by omega) (by decide), gd_s (show i < 10 by omega) (by decide), gd_s (show 10 * i + j < 100 by omega) (by decide), gd_s (show 10 * i + j < 100 by omega) (by decide), (hB i j (by omega) (by omega)).2]
      have eb := tt_b01 (hB i j (by omega) (by omega)).1
      rw [← eb]
      by_cases hq : sM σm 16 (10 * i + j) = x3
      · rw [if_pos hq, if_pos hq]
        exact ⟨0, σx, σm, rfl, rfl, h⟩
      · rw [if_neg hq, if_neg hq, nar_b h3]
        refine ⟨1, _, _, rfl, rfl, ?_⟩
        obtain ⟨h1, h2, h3', h4, h5, h6, h7, h8, h9, h10, h11, h12, h13⟩ := h
        refine ⟨h1, h2, h3', h4, h5, h6, h7, ?_, h9, h10, h11, h12, fun v f hv hf => ⟨(congrFun (sM_N σx (k := 10) (a := 12 + f) _ (by omega)) v).trans (h13 v f hv hf).1, (h13 v f hv hf).2⟩⟩
        intro a b ha hb
        show b01 (upd (sM σm 16) (10 * i + j) x3 (10 * a + b)) ∧ bt (upd (sM σx 10) i (sM σx 10 i ^^^ ((1 : Int32) <<< (nI j &&& 31))) a) b = tt (upd (sM σm 16) (10 * i + j) x3 (10 * a + b))
        by_cases hab : 10 * a + b = 10 * i + j
        · have ea : a = i := by omega
          have eb2 : b = j := by omega
          subst ea
          subst eb2
          rw [upd_s, upd_s]
          refine ⟨h3, ?_⟩
          rw [b_xor, b_one b (by omega) (by omega), decide_eq_true rfl, (hB a b ha hb).2]
          rcases (hB a b ha hb).1 with q | q <;> rcases h3 with q3 | q3 <;> first | exact absurd (q.trans q3.symm) hq | (rw [q, q3]; rfl)
        · rw [upd_n _ _ hab]
          refine ⟨(h8 a b ha hb).1, ?_⟩
          by_cases hai : a = i
          · subst hai
            rw [upd_s, b_xor, b_one j (by omega) (by omega), decide_eq_false (by omega), Bool.xor_false]
            exact (h8 a b ha hb).2
          · rw [upd_n _ _ hai]
            exact (h8 a b ha hb).2
  · exact ⟨0, σx, σm, by rw [e1]; rfl, by rw [e2]; rfl, h⟩
  · exact ⟨0, σx, σm, by rw [e1]; rfl, by rw [e2, bn_s, if_neg (show ¬ (1 : Int32) = 0 by decide), e3]; rfl, h⟩
theorem T_farm {σx σm : St_} (h : Inv_ σx σm) (x1 x2 : Int32) : ∃ r σx2 σm2, fX5_farm x1 x2 σx = some (r, σx2) ∧ fX6_farm x1 x2 σm = some (r, σm2) ∧ Inv_ σx2 σm2 := by
  have hn := h.1.1
  obtain ⟨hb, hb2, -⟩ := bnd_s h
  unfold fX5_farm fX6_farm
  rw [show (7 : Int32) = nI 8 - 1 from by decide, show (8 : Int32) = nI 8 from rfl, show (3 : Int32) = nI 4 - 1 from by decide, show (4 : Int32) = nI 4 from rfl, hb, hb2]
  have g10 : fX5_isBelow (nI (sN σx)) 10 = some (if sN σx < 10 then 1 else 0) := by
    by_cases q : sN σx < 10
    · rw [if_pos q]
      exact isBelow_1 (N := 10) q (by decide)
    · rw [if_neg q]
      exact isBelow_0 (N := 10) (Or.inr (nI_le (by omega) (by omega)))
  rw [g10]
  have m10 : (nI (sN σx) = 10) ↔ sN σx = 10 := nI_eq (a := sN σx) (b := 10) (by omega) (by decide)
  rcases ix2 x1 8 (by decide) with ⟨a, ha, rfl, e1, e2⟩ | ⟨e1, e2⟩
  · rw [e1, e2, bn_s, if_neg (show ¬ (1 : Int32) = 0 by decide)]
    rcases ix2 x2 4 (by decide) with ⟨b, hb3, rfl, e3, e4⟩ | ⟨e3, e4⟩
    · rw [e3, e4, bn_s, if_neg (show ¬ (1 : Int32) = 0 by decide), bn_s, bn_s, bn_s, if_neg (show ¬ (1 : Int32) = 0 by decide), if_neg (show ¬ (1 : Int32) = 0 by decide)]
      by_cases q : sN σx < 10
      · rw [if_pos q, if_neg (show ¬ (1 : Int32) = 0 by decide), gd_s q (by decide), if_pos (rfl : sN σx = sN σx), if_neg (fun z => by rw [m10] at z; omega), gd_s q (by decide)]
        have e5 : sS (uM σm 7 (sN σx) (nI a)) 2 = nI (sN σx) := hb
        rw [e5, gd_s q (by decide)]
        have r1 : sS (uS (uN σx (fmF (nI a) (nI b))) 5 (sS (uN σx (fmF (nI a) (nI b))) 5 + 1)) 5 - 1 = nI (sN σx) := by
          show (sS σx 5 + 1) - 1 = _
          rw [hb2, nI_1]
          exact nI_pred _
        have r2 : sS (uS (uM (uM σm 7 (sN σx) (nI a)) 8 (sN σx) (nI b)) 2 (sS (uM (uM σm 7 (sN σx) (nI a)) 8 (sN σx) (nI b)) 2 + 1)) 2 - 1 = nI (sN σx) := by
          show (sS σm 2 + 1) - 1 = _
          rw [hb, nI_1]
          exact nI_pred _
        rw [r1, r2]
        refine ⟨_, _, _, rfl, rfl, ?_⟩
        obtain ⟨h1, h2, h3, h4, h5, h6, h7, h8, h9, h10, h11, h12, h13⟩ := h
        refine ⟨⟨?_, ?_, ?_⟩, h2, h3, h4, h5, ?_, ?_, h8, h9, h10, ?_, h12, h13⟩
        · show sN σx + 1 ≤ 10
          omega
        · show sS σx 5 + 1 = nI (sN σx + 1)
          rw [hb2, nI_1]
        · show sS σm 2 + 1 = nI (sN σx + 1)
          rw [hb, nI_1]
        · intro i hi
          have hi' : i < sN σx + 1 := hi
          by_cases e : i = sN σx
          · have z := h7 i (by omega) (by omega)
            have hf : ∀ k, sF (uS (uN σx (fmF (nI a) (nI b))) 5 (sS (uN σx (fmF (nI a) (nI b))) 5 + 1)) i k = fmF (nI a) (nI b) k := fun k => if_pos e
            refine ⟨⟨?_, ?_, ?_, ?_, ?_, ?_, ?_, ?_⟩, ?_, 0, by decide, ?_⟩
            · rw [hf]
              show nI a = upd (sM σm 7) (sN σx) (nI a) i
              rw [e, upd_s]
            · rw [hf]
              show nI b = upd (sM σm 8) (sN σx) (nI b) i
              rw [e, upd_s]
            · rw [hf]; exact z.1.symm
            · rw [hf]; exact z.2.1.symm
            · rw [hf]; exact z.2.2.1.symm
            · rw [hf]; exact z.2.2.2.1.symm
            · rw [hf]; exact z.2.2.2.2.2.symm
            · rw [hf]; exact z.2.2.2.2.1.symm
            · exact Or.inl z.1
            · exact z.2.1
          · have hf : ∀ k, sF (uS (uN σx (fmF (nI a) (nI b))) 5 (sS (uN σx (fmF (nI a) (nI b))) 5 + 1)) i k = sF σx i k := fun k => if_neg e
            obtain ⟨⟨g0, g1, g2, g3, g4, g5, g6, g7⟩, gb, gz⟩ := h6 i (by omega)
            refine ⟨⟨?_, ?_, ?_, ?_, ?_, ?_, ?_, ?_⟩, gb, gz⟩
            · rw [hf, g0]
              show _ = upd (sM σm 7) (sN σx) (nI a) i
              rw [upd_n _ _ e]
            · rw [hf, g1]
              show _ = upd (sM σm 8) (sN σx) (nI b) i
              rw [upd_n _ _ e]
            · rw [hf]; exact g2
            · rw [hf]; exact g3
            · rw [hf]; exact g4
            · rw [hf]; exact g5
            · rw [hf]; exact g6
            · rw [hf]; exact g7
        · intro i hi hi10
          have hi' : sN σx + 1 ≤ i := hi
          exact h7 i (by omega) hi10
        · intro v f hv hf
          refine ⟨(h11 v f hv hf).1, fun e => ?_⟩
          have := (h11 v f hv hf).2 e
          show v < sN σx + 1 ∧ f < sN σx + 1
          omega
      · rw [if_neg q, if_pos (show (0 : Int32) = 0 from rfl), if_pos (m10.mpr (by omega))]
        exact ⟨-1, σx, σm, rfl, rfl, h⟩
    · rw [e3, e4, bn_s, bn_s, bn_s, if_pos (show (0 : Int32) = 0 from rfl), if_neg (show ¬ (1 : Int32) = 0 by decide)]
      refine ⟨-1, σx, σm, rfl, ?_, h⟩
      split <;> rfl
  · rw [e1, e2, bn_s, if_pos (show (0 : Int32) = 0 from rfl)]
    refine ⟨-1, σx, σm, rfl, ?_, h⟩
    split <;> rfl
