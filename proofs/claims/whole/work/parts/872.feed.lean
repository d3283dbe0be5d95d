/-! FEED -/
theorem us_l : ∀ n, n < 32 → (((nI n).toUInt32 &&& Int32.toUInt32 31).toBitVec % 32).toNat = n := by decide +kernel
theorem bt_ushr (n : Nat) (hn : n < 32) (x : Int32) (i : Nat) : bt (ushr_ x (nI n)) i = bt x (n + i) := by
  unfold bt ushr_
  show ((x.toUInt32 >>> ((nI n).toUInt32 &&& Int32.toUInt32 31)).toBitVec).getLsbD i = _
  rw [UInt32.toBitVec_shiftRight]
  show (x.toBitVec >>> (((nI n).toUInt32 &&& Int32.toUInt32 31).toBitVec % 32).toNat).getLsbD i = _
  rw [us_l n hn, BitVec.getLsbD_ushiftRight]
theorem b_255 : ∀ i, i < 32 → bt 255 i = decide (i < 8) := by decide +kernel
theorem i8_ext {x y : Int32} (h : ∀ i, i < 8 → bt x i = bt y i) : x.toInt8 = y.toInt8 := by
  apply Int8.toBitVec_inj.mp
  apply BitVec.eq_of_getLsbD_eq
  intro i hi
  show (x.toBitVec.signExtend 8).getLsbD i = (y.toBitVec.signExtend 8).getLsbD i
  rw [BitVec.getLsbD_signExtend, BitVec.getLsbD_signExtend, if_pos (by omega), if_pos (by omega)]
  have := h i hi
  unfold bt at this
  rw [this]
theorem byte_s (w : Int32) {k : Nat} (hk : k + 8 ≤ 32) : ∃ c : Nat, c < 256 ∧ (ushr_ w (nI k)) &&& 255 = nI c ∧ vp_nar .byte (i2b_ (w >>> (nI k &&& 31))) = sb_b c := by
  obtain ⟨c, hc, e⟩ := mask8 (x := (ushr_ w (nI k)) &&& 255) (fun i hi => by
    rcases Nat.lt_or_ge i 32 with q | q
    · rw [b_and, b_255 i q, decide_eq_false (by omega), Bool.and_false]
    · exact b_big q)
  refine ⟨c, hc, e, ?_⟩
  unfold i2b_ sb_b
  rw [pk_vb, ← e]
  congr 1
  apply i8_ext
  intro i hi
  rw [b_sshr k (by omega) w (by omega), if_pos (by omega), b_and, bt_ushr k (by omega), b_255 i (by omega), decide_eq_true hi, Bool.and_true]
theorem put1 {x m : St_} (h : Inv_ x m) {t : Nat} (ht : t < 60) (e : sS x 0 = nI t) {c : Nat} (hc : c < 256) : Inv_ (uS (uM x 0 t (nI c)) 0 (nI (t + 1))) (uS (uM m 0 t (sb_b c)) 1 (nI (t + 1))) := by
  obtain ⟨h1, h2, h3, ⟨t', ht', e1, e2, hb⟩, h5, h6, h7, h8, h9, h10, h11, h12, h13⟩ := h
  have et : t' = t := (nI_eq (by omega) (by omega)).mp (e1.symm.trans e)
  subst et
  refine ⟨h1, h2, h3, ⟨t' + 1, by omega, rfl, rfl, ?_⟩, h5, h6, h7, h8, h9, h10, h11, h12, ?_⟩
  · intro j hj
    show ∃ b : Nat, b < 256 ∧ upd (sM x 0) t' (nI c) j = nI b ∧ upd (sM m 0) t' (sb_b c) j = sb_b b
    by_cases q : j = t'
    · subst q
      rw [upd_s, upd_s]
      exact ⟨c, hc, rfl, rfl⟩
    · rw [upd_n _ _ q, upd_n _ _ q]
      exact hb j (by omega)
  · exact fun v f hv hf => ⟨(congrFun (sM_N x (k := 0) (a := 12 + f) _ (by omega)) v).trans (h13 v f hv hf).1, (h13 v f hv hf).2⟩
theorem put_s (n : Nat) (w : Int32) {k : Nat} (hk : k + 8 ≤ 32) {x m : St_} (h : Inv_ x m) {t : Nat} (ht : t < 60) (e : sS x 0 = nI t) : ∃ x' m', Inv_ x' m' ∧ sS x' 0 = nI (t + 1) ∧ fX3_put_3 (n + 1) w (nI k) x = fX3_put_3 n w (nI k + (-8)) x' ∧ fX6_push_3 (n + 1) w (nI k) m = fX6_push_3 n w (nI k + (-8)) m' := by
  obtain ⟨c, hc, ec, em⟩ := byte_s w hk
  refine ⟨_, _, put1 h ht e hc, rfl, ?_, ?_⟩
  · show (if nI k < 0 then some x else (bn_ (fX5_isBelow (sS x 0) 60) fun r1 => (if r1 = 0 then fX3_put_45 (fX3_put_3  n) w (nI k) x else (gd_ (sS x 0) 60 fun j2 => fX3_put_45 (fX3_put_3  n) w (nI k) (uS (uM x 0 j2 ((ushr_ w (nI k)) &&& 255)) 0 ((sS (uM x 0 j2 ((ushr_ w (nI k)) &&& 255)) 0) + 1)))))) = _
    rw [if_neg (nI_pos (by omega)), e, show (60 : Int32) = nI 60 from rfl, isBelow_1 ht (by decide), bn_s, if_neg one0, gd_s ht (by decide), ec]
    unfold fX3_put_45
    rw [show sS (uM x 0 t (nI c)) 0 + 1 = nI (t + 1) from by show sS x 0 + 1 = _; rw [e, nI_1]]
  · have e2 : sS m 1 = nI t := by
      obtain ⟨-, -, -, ⟨t', ht', e1, e2, hb⟩, -⟩ := h
      have et : t' = t := (nI_eq (by omega) (by omega)).mp (e1.symm.trans e)
      rw [e2, et]
    show (if nI k < 0 then some m else (gd_ (sS m 1) 60 fun j1 => fX6_push_3  n w (nI k + (-8)) (uS (uM m 0 j1 (vp_nar .byte (i2b_ (w >>> (nI k &&& 31))))) 1 ((sS (uM m 0 j1 (vp_nar .byte (i2b_ (w >>> (nI k &&& 31))))) 1) + 1)))) = _
    rw [if_neg (nI_pos (by omega)), e2, gd_s ht (by decide), em, show sS (uM m 0 t (sb_b c)) 1 + 1 = nI (t + 1) from by show sS m 1 + 1 = _; rw [e2, nI_1]]
theorem put4 (w : Int32) {x m : St_} (h : Inv_ x m) {t : Nat} (ht : t + 4 ≤ 60) (e : sS x 0 = nI t) : ∃ x' m', Inv_ x' m' ∧ sS x' 0 = nI (t + 4) ∧ fX3_put w x = some x' ∧ fX6_push w m = some m' := by
  obtain ⟨x1, m1, i1, s1, a1, b1⟩ := put_s 299 w (k := 24) (by decide) h (by omega) e
  obtain ⟨x2, m2, i2, s2, a2, b2⟩ := put_s 298 w (k := 16) (by decide) i1 (by omega) s1
  obtain ⟨x3, m3, i3, s3, a3, b3⟩ := put_s 297 w (k := 8) (by decide) i2 (by omega) s2
  obtain ⟨x4, m4, i4, s4, a4, b4⟩ := put_s 296 w (k := 0) (by decide) i3 (by omega) s3
  refine ⟨x4, m4, i4, s4, ?_, ?_⟩
  · show fX3_put_3 300 w (nI 24) x = _
    rw [a1, show nI 24 + (-8) = nI 16 from by decide, a2, show nI 16 + (-8) = nI 8 from by decide, a3, show nI 8 + (-8) = nI 0 from by decide, a4]
    exact if_pos (by decide)
  · show fX6_push_3 300 w (nI 24) m = _
    rw [b1, show nI 24 + (-8) = nI 16 from by decide, b2, show nI 16 + (-8) = nI 8 from by decide, b3, show nI 8 + (-8) = nI 0 from by decide, b4]
    exact if_pos (by decide)
theorem T_feed {σx σm : St_} (h : Inv_ σx σm) (x1 x2 x3 x4 x5 : Int32) : ∃ r σx2 σm2, fX5_feed x1 x2 x3 x4 x5 σx = some (r, σx2) ∧ fX6_feed x1 x2 x3 x4 x5 σm = some (r, σm2) ∧ Inv_ σx2 σm2 := by
  obtain ⟨t, ht, e1, e2, -⟩ := h.2.2.2.1
  unfold fX5_feed fX6_feed fX3_takesFeed fX3_size
  rw [e1, e2, show nI t + 20 = nI (t + 20) from nI_add t 20, show (60 : Int32) = nI 60 from rfl]
  by_cases q : t + 20 ≤ 60
  · rw [if_neg (nI_nlt q (by omega)), bn_s, if_neg one0, if_pos (nI_le q (by omega))]
    obtain ⟨y1, m1, i1, s1, a1, b1⟩ := put4 x1 h (by omega) e1
    obtain ⟨y2, m2, i2, s2, a2, b2⟩ := put4 x2 i1 (by omega) s1
    obtain ⟨y3, m3, i3, s3, a3, b3⟩ := put4 x3 i2 (by omega) s2
    obtain ⟨y4, m4, i4, s4, a4, b4⟩ := put4 x4 i3 (by omega) s3
    obtain ⟨y5, m5, i5, s5, a5, b5⟩ := put4 x5 i4 (by omega) s4
    rw [a1, b1, bn_s, bn_s, a2, b2, bn_s, bn_s, a3, b3, bn_s, bn_s, a4, b4, bn_s, bn_s, a5, b5, bn_s, bn_s]
    have e5 : sS y5 0 = sS m5 1 := by
      obtain ⟨t', ht', q1, q2, -⟩ := i5.2.2.2.1
      rw [q1, q2]
    rw [e5]
    exact ⟨_, _, _, rfl, rfl, i5⟩
  · rw [if_pos (nI_lt (by omega) (by omega)), if_neg (nI_ge (by omega) (by omega))]
    exact ⟨-1, σx, σm, rfl, rfl, h⟩
