/-! TELLS -/
theorem one0 : ¬ (1 : Int32) = 0 := by decide
theorem mask8 {x : Int32} (h : ∀ i, 8 ≤ i → bt x i = false) : ∃ k, k < 256 ∧ x = nI k := by
  refine ⟨x.toBitVec.toNat, ?_, ?_⟩
  · exact Nat.lt_pow_two_of_testBit (n := 8) _ (fun i hi => h i hi)
  · apply Int32.toBitVec_inj.mp
    show x.toBitVec = BitVec.ofNat 32 x.toBitVec.toNat
    simp
theorem told_put {x m : St_} (h : Inv_ x m) {v f : Nat} (hv : v < 10) (hf : f < 10) (hq : vis m v f = true) {c : Nat} (hc : c < 256) : Inv_ (uM x (12 + f) v (nI c)) (uM m 19 (10 * v + f) (nI c)) := by
  have e : ∀ k, k < 12 → sM (uM x (12 + f) v (nI c)) k = sM x k := fun k hk => sM_N _ _ (by omega)
  obtain ⟨h1, h2, h3, h4, h5, h6, h7, h8, h9, h10, h11, h12, h13⟩ := h
  refine ⟨h1, h2, h3, ?_, ?_, h6, h7, ?_, ?_, ?_, h11, ?_, ?_⟩
  · rw [e 0 (by decide)]; exact h4
  · rw [e 1 (by decide)]; exact h5
  · rw [e 10 (by decide)]; exact h8
  · rw [e 11 (by decide)]; exact h9
  · rw [e 3 (by decide)]; exact h10
  · rw [e 4 (by decide)]; exact h12
  · intro v' f' hv' hf'
    show sM (uM x (12 + f) v (nI c)) (12 + f') v' = (if vis m v' f' = true then upd (sM m 19) (10 * v + f) (nI c) (10 * v' + f') else 0) ∧ (vis m v' f' = true → ∃ b : Nat, b < 256 ∧ upd (sM m 19) (10 * v + f) (nI c) (10 * v' + f') = nI b)
    by_cases ef : f' = f
    · subst ef
      rw [show sM (uM x (12 + f') v (nI c)) (12 + f') = upd (sM x (12 + f')) v (nI c) from if_pos rfl]
      by_cases ev : v' = v
      · subst ev
        rw [upd_s, upd_s, if_pos hq]
        exact ⟨rfl, fun _ => ⟨c, hc, rfl⟩⟩
      · rw [upd_n _ _ ev, upd_n _ _ (by omega)]
        exact h13 v' f' hv' hf'
    · rw [show sM (uM x (12 + f) v (nI c)) (12 + f') = sM x (12 + f') from sM_N _ _ (by omega), upd_n _ _ (by omega)]
      exact h13 v' f' hv' hf'
theorem T_tells {σx σm : St_} (h : Inv_ σx σm) (x1 x2 x3 x4 : Int32) : ∃ r σx2 σm2, fX5_tells x1 x2 x3 x4 σx = some (r, σx2) ∧ fX6_tells x1 x2 x3 x4 σm = some (r, σm2) ∧ Inv_ σx2 σm2 := by
  have hn := h.1.1
  unfold fX5_tells fX6_tells
  rcases FF h x1 x2 with ⟨v, f, hv, hf, rfl, rfl, e1, e2, e3⟩ | ⟨e1, e2 | ⟨e2, e3⟩⟩
  · have hv10 : v < 10 := by omega
    have hf10 : f < 10 := by omega
    rw [e1, bn_s, if_neg one0, e2, bn_s, if_neg one0, e3, bn_s, if_neg one0, isVisit_s h hv10 hf10, bn_s, isVisitor_s h hv10 hf10, show (7 : Int32) = nI 8 - 1 from by decide, show (8 : Int32) = nI 8 from rfl]
    cases hq : vis σm v f
    · rw [ite_f]
      rcases ix2 x3 8 (by decide) with ⟨p, hp, rfl, e4, e5⟩ | ⟨e4, e5⟩
      · rw [e4, bn_s, if_neg one0, bn_s, ite_f]
        exact ⟨0, σx, σm, rfl, rfl, h⟩
      · rw [e4]
        exact ⟨0, σx, σm, rfl, rfl, h⟩
    · rw [ite_t]
      rcases ix2 x3 8 (by decide) with ⟨p, hp, rfl, e4, e5⟩ | ⟨e4, e5⟩
      · rw [e4, bn_s, if_neg one0, bn_s, ite_t, e5, bn_s, if_neg one0]
        unfold fX4_tell fX6_tells_83
        obtain ⟨ht, b, hb, hm⟩ : sM σx (12 + f) v = sM σm 19 (10 * v + f) ∧ ∃ b : Nat, b < 256 ∧ sM σm 19 (10 * v + f) = nI b := by
          have q := h.2.2.2.2.2.2.2.2.2.2.2.2 v f hv10 hf10
          rw [if_pos hq] at q
          exact ⟨q.1, q.2 hq⟩
        have h100 : 10 * v + f < 100 := by omega
        simp only [ix_10, gd_s hf10 (by decide : 10 < 2 ^ 31), gd_s hv10 (by decide : 10 < 2 ^ 31), gd_s h100 (by decide : 100 < 2 ^ 31), ht, hm]
        by_cases h0 : x4 = 0
        · rw [if_pos h0, if_pos h0, bn_s]
          obtain ⟨c, hc, ec⟩ := mask8 (x := nI b &&& (((1 : Int32) <<< (nI p &&& 31)) ^^^ (-1))) (fun i hi => by rw [b_and, nI_bt hb hi, Bool.false_and])
          rw [ec]
          exact ⟨1, _, _, rfl, rfl, told_put h hv10 hf10 hq hc⟩
        · rw [if_neg h0, if_neg h0, bn_s]
          obtain ⟨c, hc, ec⟩ := mask8 (x := nI b ||| ((1 : Int32) <<< (nI p &&& 31))) (fun i hi => by
            rcases Nat.lt_or_ge i 32 with q | q
            · rw [b_or, nI_bt hb hi, b_one p (by omega) q, decide_eq_false (by omega)]; rfl
            · exact b_big q)
          rw [ec]
          exact ⟨1, _, _, rfl, rfl, told_put h hv10 hf10 hq hc⟩
      · rw [e4, e5]
        exact ⟨0, σx, σm, rfl, rfl, h⟩
  · exact ⟨0, σx, σm, by rw [e1]; rfl, by rw [e2]; rfl, h⟩
  · exact ⟨0, σx, σm, by rw [e1]; rfl, by rw [e2, bn_s, if_neg one0, e3]; rfl, h⟩
