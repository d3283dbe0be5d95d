/-! RULES, the whole -/
def okD (D : Nat → Int32) : Prop := ∃ N V : Nat, N ≤ 5 ∧ V ≤ 9 ∧ D 0 = nI N ∧ D 1 = nI V
theorem okD_upd {D : Nat → Int32} (h : okD D) {c v : Nat} (hb : cb c v = true) : okD (upd D c (nI v)) := by
  obtain ⟨N, V, hN, hV, e0, e1⟩ := h
  have hb := of_decide_eq_true hb
  by_cases c0 : c = 0
  · subst c0
    exact ⟨v, V, hb.2, hV, upd_s _ _ _, (upd_n _ _ (by decide)).trans e1⟩
  · by_cases c1 : c = 1
    · subst c1
      exact ⟨N, v, hN, hb.2, (upd_n _ _ (by decide)).trans e0, upd_s _ _ _⟩
    · exact ⟨N, V, hN, hV, (upd_n _ _ (fun z => c0 z.symm)).trans e0, (upd_n _ _ (fun z => c1 z.symm)).trans e1⟩
def endX (x : St_) (R : Nat) (D : Nat → Int32) (k : Nat) : St_ := if R = 0 then uA (st_ x D k) 1 (va_cpy D (sM x 1) 0 0 6) else st_ x D k
theorem readLoop {x m : St_} {n : Nat} {T : Nat → Nat} (h : Tp x m n T) : ∀ d f g i k D D', i + d = n + 1 → d < f → d < g → k ≤ n → (∀ j, j < 6 → D j = D' j) → okD D' → ∃ R D2 D2' k2, R < 10000 ∧ (∀ j, j < 6 → D2 j = D2' j) ∧ okD D2' ∧ fX2_read_21 f (nI i) (st_ x D k) = some (nI R, endX x R D2 k2) ∧ fX6_reads_11 g (nI n) (nI k) (nI i) (uA m 6 D') = some (nI R, uA m 6 D2')
  | d, 0, _, _, _, _, _, _, hf, _, _, _, _ => absurd hf (Nat.not_lt_zero d)
  | d, _, 0, _, _, _, _, _, _, hg, _, _, _ => absurd hg (Nat.not_lt_zero d)
  | 0, f + 1, g + 1, i, k, D, D', hi, _, _, hk, hD, hO => by
    have hn := h.1
    refine ⟨100 * 1 + k, D, D', k, by omega, hD, hO, ?_, ?_⟩
    · show (bn_ (fX3_size (st_ x D k)) fun r1 => (if r1 < nI i then fX2_read_108 (st_ x D k) else _)) = _
      unfold fX3_size
      rw [bn_s, show sS (st_ x D k) 0 = nI n from h.2.1, if_pos (nI_lt (by omega) (by omega))]
      unfold fX2_read_108 endX
      rw [st_1, show (1 : Int32) = nI 1 from rfl, fault_s, if_neg (by omega)]
      rfl
    · show (if nI n < nI i then fX6_reads_181 (nI k) (uA m 6 D') else _) = _
      rw [if_pos (nI_lt (by omega) (by omega))]
      show some (nI 100 + nI k, _) = _
      rw [nI_add]
  | d + 1, f + 1, g + 1, i, k, D, D', hi, hf, hg, hk, hD, hO => by
    have hn := h.1
    have eX : fX2_read_21 (f + 1) (nI i) (st_ x D k) = (bn_ (fX3_size (st_ x D k)) fun r1 => (if r1 < nI i then fX2_read_108 (st_ x D k) else (bn_ (fX2_readClause (st_ x D k)) fun r2 => (if r2.1 = 0 then (bn_ (fX3_at (sS r2.2 1) r2.2) fun r3 => (if r3 = (-1) then fX2_read_53  r2.2 else (bn_ (fX3_at (sS r2.2 1) r2.2) fun r4 => (if r4 = 59 then fX2_read_21  f (nI i + 1) (uS r2.2 1 ((sS r2.2 1) + 1)) else fX2_read_83  r2.2)))) else some (r2.1, r2.2))))) := rfl
    have eM : fX6_reads_11 (g + 1) (nI n) (nI k) (nI i) (uA m 6 D') = (if nI n < nI i then fX6_reads_181 (nI k) (uA m 6 D') else bM (fX6_reads_11 g) (nI n) (nI k) (nI i) (uA m 6 D')) := rfl
    unfold fX3_size at eX
    rw [bn_s, show sS (st_ x D k) 0 = nI n from h.2.1, if_neg (nI_nlt (by omega) (by omega))] at eX
    rw [if_neg (nI_nlt (by omega) (by omega))] at eM
    rcases clause h D D' k hk (fX6_reads_11 g) (nI i) with ⟨R, k2, r0, r1, cX, cM⟩ | ⟨c, v, k2, hc, hk2, hv, hb, cX, cM⟩
    · rw [cX, bn_s] at eX
      dsimp only at eX
      rw [if_neg (nI_ne0 r0 (by omega))] at eX
      rw [cM] at eM
      refine ⟨R, D, D', k2, r1, hD, hO, ?_, eM⟩
      rw [eX, endX, if_neg (by omega)]
    · rw [cX, bn_s] at eX
      dsimp only at eX
      rw [if_pos (show (0 : Int32) = 0 from rfl), st_1, atX h _ k2 k2 (by omega), bn_s, bn_s] at eX
      rw [cM, atM h _ k2 (by omega), bn_s] at eM
      have hD2 : ∀ j, j < 6 → upd D c (nI v) j = upd D' c (nI v) j := by
        intro j hj
        by_cases q : j = c
        · rw [q, upd_s, upd_s]
        · rw [upd_n _ _ q, upd_n _ _ q, hD j hj]
      by_cases q : k2 < n
      · have nm : ¬ nI (T k2) = -1 := fun z => nI_pos (n := T k2) (by have := (h.2.2 k2 q).1; omega) (by rw [z]; decide)
        rw [if_pos q, if_neg nm] at eX
        rw [if_neg (show ¬ nI k2 = nI n from fun z => by rw [nI_eq (by omega) (by omega)] at z; omega), if_pos q] at eM
        by_cases z : nI (T k2) = 59
        · rw [if_pos z, nI_1, nI_1, st_S] at eX
          rw [if_pos z, nI_1, nI_1] at eM
          obtain ⟨R, D2, D2', k3, h1, h2, h3, h4, h5⟩ := readLoop h d f g (i + 1) (k2 + 1) _ _ (by omega) (by omega) (by omega) (by omega) hD2 (okD_upd hO hb)
          exact ⟨R, D2, D2', k3, h1, h2, h3, eX.trans h4, eM.trans h5⟩
        · rw [if_neg z] at eX eM
          unfold fX2_read_83 at eX
          rw [st_1, show (5 : Int32) = nI 5 from rfl, fault_s] at eX
          refine ⟨100 * 5 + k2, _, _, k2, by omega, hD2, okD_upd hO hb, ?_, ?_⟩
          · rw [eX, endX, if_neg (by omega)]
            rfl
          · rw [eM]
            show some (nI 500 + nI k2, _) = _
            rw [nI_add]
      · rw [if_neg q, if_pos (show (-1 : Int32) = -1 from rfl)] at eX
        have e2 : k2 = n := by omega
        rw [if_pos (show nI k2 = nI n by rw [e2])] at eM
        refine ⟨0, _, _, k2, by omega, hD2, okD_upd hO hb, ?_, eM⟩
        rw [eX, endX, if_pos rfl]
        rfl
theorem copyL : ∀ d f a σ, a + d = 6 → d < f → fX6_rules_27 f 0 (nI a) σ = some (0, uA σ 5 (fun j => if a ≤ j ∧ j < 6 then sM σ 6 j else sM σ 5 j))
  | d, 0, _, _, _, h => absurd h (Nat.not_lt_zero d)
  | 0, f + 1, a, σ, e, _ => by
    show (if 6 ≤ nI a then some ((0 : Int32), σ) else _) = _
    rw [if_pos (le_6 (by omega) (by omega))]
    rw [show (fun j => if a ≤ j ∧ j < 6 then sM σ 6 j else sM σ 5 j) = sM σ 5 from by
      funext j
      exact if_neg (by omega), uA_self]
  | d + 1, f + 1, a, σ, e, h => by
    show (if 6 ≤ nI a then some ((0 : Int32), σ) else (if (0 : Int32) = 0 then (gd_ (nI a) 6 fun j4 => (gd_ (nI a) 6 fun j5 => fX6_rules_27  f 0 (nI a + 1) (uM σ 5 j5 (sM σ 6 j4)))) else some (0, σ))) = _
    rw [if_neg (nle_6 (by omega)), if_pos (show (0 : Int32) = 0 from rfl), gd_s (by omega) (by decide), gd_s (by omega) (by decide), nI_1, copyL d f (a + 1) _ (by omega) (by omega)]
    unfold uM
    rw [uA_uA, sM_A, show sM (uA σ 5 (upd (sM σ 5) a (sM σ 6 a))) 6 = sM σ 6 from rfl]
    refine congrArg (fun z => some ((0 : Int32), uA σ 5 z)) ?_
    funext j
    by_cases q : a + 1 ≤ j ∧ j < 6
    · rw [if_pos q, if_pos (by omega)]
    · rw [if_neg q]
      by_cases qa : j = a
      · subst qa
        rw [upd_s, if_pos (by omega)]
      · rw [upd_n _ _ qa, if_neg (by omega)]
theorem asAtFirst6 (m : St_) : ∃ D : Nat → Int32, fX6_asAtFirst_q6 m = some (uA m 6 D) ∧ (∀ j, j < 6 → D j = lsA.getD j 0) := by
  refine ⟨upd (upd (upd (upd (upd (upd (sM m 6) 0 3) 1 3) 2 3) 3 9) 4 2) 5 60, ?_, ?_⟩
  · unfold fX6_asAtFirst_q6
    rw [show gd_ (α := St_) 0 = gd_ (nI 0) from rfl, gd_s (by decide) (by decide), show gd_ (α := St_) 1 = gd_ (nI 1) from rfl, gd_s (by decide) (by decide), show gd_ (α := St_) 2 = gd_ (nI 2) from rfl, gd_s (by decide) (by decide), show gd_ (α := St_) 3 = gd_ (nI 3) from rfl, gd_s (by decide) (by decide), show gd_ (α := St_) 4 = gd_ (nI 4) from rfl, gd_s (by decide) (by decide), show gd_ (α := St_) 5 = gd_ (nI 5) from rfl, gd_s (by decide) (by decide)]
    rw [show uM m 6 0 3 = uA m 6 (upd (sM m 6) 0 3) from rfl, uM_uA, uM_uA, uM_uA, uM_uA, uM_uA]
  · intro j hj
    have : j = 0 ∨ j = 1 ∨ j = 2 ∨ j = 3 ∨ j = 4 ∨ j = 5 := by omega
    rcases this with rfl | rfl | rfl | rfl | rfl | rfl <;> rfl
theorem cutTo_s {σ : St_} {t n : Nat} (e : sS σ 0 = nI t) (hn : n ≤ t) (ht : t ≤ 60) : fX3_cutTo (nI n) σ = some (uS σ 0 (nI n)) := by
  unfold fX3_cutTo
  rw [if_neg (nI_pos (by omega)), e]
  by_cases q : t ≤ n
  · rw [if_pos (nI_le q (by omega))]
    have : n = t := by omega
    rw [this, ← e, uS_self]
  · rw [if_neg (nI_ge (by omega) (by omega))]
theorem T_rules {σx σm : St_} (h : Inv_ σx σm) (x1 : Int32) : ∃ r σx2 σm2, fX5_rules x1 σx = some (r, σx2) ∧ fX6_rules x1 σm = some (r, σm2) ∧ Inv_ σx2 σm2 := by
  obtain ⟨t, ht, e1, e2, hb⟩ := h.2.2.2.1
  unfold fX5_rules fX6_rules fX3_size
  rw [e1, e2, bn_s]
  by_cases q0 : x1 < 0
  · rw [if_pos q0, if_pos q0]
    exact ⟨-1, σx, σm, rfl, rfl, h⟩
  rw [if_neg q0, if_neg q0]
  by_cases q1 : x1 ≤ nI t
  · rw [if_pos q1, if_pos q1]
    obtain ⟨n, hn, rfl⟩ : ∃ n, n ≤ t ∧ x1 = nI n := by
      rcases pk_ix x1 (n := t + 1) (by omega) with q | q | ⟨j, hj, e⟩
      · exact absurd q q0
      · exact absurd (Int32.le_trans q q1) (nI_ge (by omega) (by omega))
      · exact ⟨j, by omega, e⟩
    rw [cutTo_s e1 hn ht, bn_s]
    have hT : Tp (uS σx 0 (nI n)) (uS σm 1 0) n (fun j => (sM σx 0 j).toNatClampNeg) := by
      refine ⟨by omega, rfl, ?_⟩
      intro j hj
      obtain ⟨b, hb1, hb2, hb3⟩ := hb j (by omega)
      have eb : (sM σx 0 j).toNatClampNeg = b := by rw [hb2]; exact nI_clamp (by omega)
      show (sM σx 0 j).toNatClampNeg < 256 ∧ sM σx 0 j = nI ((sM σx 0 j).toNatClampNeg) ∧ sM σm 0 j = sb_b ((sM σx 0 j).toNatClampNeg)
      rw [eb]
      exact ⟨hb1, hb2, hb3⟩
    obtain ⟨D0', a1, a2⟩ := asAtFirst6 (uS σm 1 0)
    unfold fX6_reads
    rw [a1, bn_s]
    have hD0 : ∀ j, j < 6 → va_cpy (fun j => lsA.getD j 0) (sM (uS σx 0 (nI n)) 2) 0 0 6 j = D0' j := fun j hj => (sb_cpy0 hj).trans (a2 j hj).symm
    have hO : okD D0' := ⟨3, 3, by decide, by decide, a2 0 (by decide), a2 1 (by decide)⟩
    obtain ⟨R, D2, D2', k2, hR, hD2, hO2, rX, rM⟩ := readLoop hT (n + 1) FU_ FU_ 0 0 _ _ (by omega) (by show n + 1 < 300; omega) (by show n + 1 < 300; omega) (Nat.zero_le n) hD0 hO
    rw [show fX2_read (uS σx 0 (nI n)) = some (nI R, endX (uS σx 0 (nI n)) R D2 k2) from rX, bn_s, show fX6_reads_11 FU_ (nI n) 0 0 (uA (uS σm 1 0) 6 D0') = some (nI R, uA (uS σm 1 0) 6 D2') from rM, bn_s]
    dsimp only
    have eY : sS (endX (uS σx 0 (nI n)) R D2 k2) 0 = nI n := by
      unfold endX
      split <;> rfl
    rw [show (0 : Int32) = nI 0 from rfl, cutTo_s eY (Nat.zero_le n) (by omega), bn_s]
    obtain ⟨h1, h2, h3, h4, h5, h6, h7, h8, h9, h10, h11, h12, h13⟩ := h
    by_cases r0 : R = 0
    · subst r0
      rw [show fX6_rules_27 FU_ (nI 0) (nI 0) (uA (uS σm 1 (nI 0)) 6 D2') = _ from copyL 6 FU_ 0 _ rfl (by decide), endX, if_pos rfl]
      refine ⟨_, _, _, rfl, rfl, h1, h2, h3, ⟨0, by decide, rfl, rfl, fun j hj => absurd hj (Nat.not_lt_zero j)⟩, ?_, h6, h7, h8, h9, h10, h11, h12, ?_⟩
      · refine ⟨?_, ?_⟩
        · intro j hj
          show va_cpy D2 (sM σx 1) 0 0 6 j = (if 0 ≤ j ∧ j < 6 then D2' j else _)
          rw [sb_cpy0 hj, if_pos (by omega), hD2 j hj]
        · obtain ⟨N, V, hN, hV, e0, e1⟩ := hO2
          exact ⟨N, V, hN, hV, e0, e1⟩
      · intro v f hv hf
        refine ⟨?_, (h13 v f hv hf).2⟩
        refine Eq.trans ?_ (h13 v f hv hf).1
        show (if 12 + f = 1 then _ else if 12 + f = 2 then _ else σx.2.1 (12 + f)) v = _
        rw [if_neg (by omega), if_neg (by omega)]
        rfl
    · have hr : ¬ nI R = 0 := nI_ne0 (by omega) (by omega)
      rw [show fX6_rules_27 FU_ (nI R) (nI 0) (uA (uS σm 1 (nI 0)) 6 D2') = some (nI R, uA (uS σm 1 (nI 0)) 6 D2') from by
        show (if 6 ≤ nI 0 then _ else (if nI R = 0 then _ else some (nI R, uA (uS σm 1 (nI 0)) 6 D2'))) = _
        rw [if_neg (nle_6 (by decide)), if_neg hr], endX, if_neg r0]
      refine ⟨_, _, _, rfl, rfl, h1, h2, h3, ⟨0, by decide, rfl, rfl, fun j hj => absurd hj (Nat.not_lt_zero j)⟩, h5, h6, h7, h8, h9, h10, h11, h12, ?_⟩
      intro v f hv hf
      refine ⟨?_, (h13 v f hv hf).2⟩
      refine Eq.trans ?_ (h13 v f hv hf).1
      show (if 12 + f = 2 then _ else σx.2.1 (12 + f)) v = _
      rw [if_neg (by omega)]
      rfl
  · rw [if_neg q1, if_neg q1]
    exact ⟨-1, σx, σm, rfl, rfl, h⟩
