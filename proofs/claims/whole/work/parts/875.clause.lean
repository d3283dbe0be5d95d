/-! a clause -/
def cbL (c : Nat) : Nat := ([1, 0, 1, 1, 1, 0] : List Nat).getD c 0
def cbM (c : Nat) : Nat := ([5, 9, 9999, 9999, 20, 100] : List Nat).getD c 0
def cb (c v : Nat) : Bool := decide (cbL c ≤ v ∧ v ≤ cbM c)
theorem lsL_n : ∀ c, c < 6 → lsL.getD c 0 = nI (cbL c) ∧ lsM.getD c 0 = nI (cbM c) ∧ cbL c < 10000 ∧ cbM c < 10000 := by decide +kernel
theorem canX {α : Type} {c v : Nat} (hc : c < 6) (hv : v < 10000) (A : Option α) (B : Nat → Option α) : (gd_ (nI c) 6 fun j7 => (if nI v < (lsL.getD j7 0) then A else (gd_ (nI c) 6 fun j8 => (if nI v ≤ (lsM.getD j8 0) then (gd_ (nI c) 6 fun j9 => B j9) else A)))) = if cb c v = true then B c else A := by
  obtain ⟨e1, e2, b1, b2⟩ := lsL_n c hc
  rw [gd_s hc (by decide), e1, gd_s hc (by decide), e2, gd_s hc (by decide)]
  unfold cb
  by_cases q1 : v < cbL c
  · rw [if_pos (nI_lt q1 (by omega)), decide_eq_false (by omega), if_neg (by decide)]
  · rw [if_neg (nI_nlt (by omega) (by omega))]
    by_cases q2 : v ≤ cbM c
    · rw [if_pos (nI_le q2 (by omega)), decide_eq_true (by omega), if_pos rfl]
    · rw [if_neg (nI_ge (by omega) (by omega)), decide_eq_false (by omega), if_neg (by decide)]
theorem lies_n {a b v : Nat} (ha : a < 2 ^ 31) (hb : b < 2 ^ 31) (hv : v < 2 ^ 31) : fX6_lies (nI v) (nI a) (nI b) = some (nI (n1 (decide (a ≤ v ∧ v ≤ b)))) := by
  unfold fX6_lies
  by_cases q1 : v < a
  · rw [if_pos (nI_lt q1 ha), decide_eq_false (by omega)]
    rfl
  · rw [if_neg (nI_nlt (by omega) hv)]
    by_cases q2 : b < v
    · rw [if_pos (nI_lt q2 hv), decide_eq_false (by omega)]
      rfl
    · rw [if_neg (nI_nlt (by omega) hb), decide_eq_true (by omega)]
      rfl
theorem canM {c v : Nat} (hc : c < 6) (hv : v < 10000) : fX6_canBe (nI c) (nI v) = some (nI (n1 (cb c v))) := by
  have lt1 : (if nI v < 1 then some (0 : Int32) else some 1) = some (nI (n1 (decide (1 ≤ v ∧ v ≤ 9999)))) := by
    by_cases q : v < 1
    · rw [if_pos (show nI v < 1 from nI_lt (b := 1) q (by decide)), decide_eq_false (by omega)]; rfl
    · rw [if_neg (show ¬ nI v < 1 from nI_nlt (b := 1) (by omega) (by omega)), decide_eq_true (by omega)]; rfl
  have h : c = 0 ∨ c = 1 ∨ c = 2 ∨ c = 3 ∨ c = 4 ∨ c = 5 := by omega
  unfold fX6_canBe cb
  rcases h with rfl | rfl | rfl | rfl | rfl | rfl
  · rw [if_pos (show nI 0 = 0 from rfl), show (1 : Int32) = nI 1 from rfl, show (5 : Int32) = nI 5 from rfl, lies_n (by decide) (by decide) (by omega), bn_s, gz_n1]
    rfl
  · rw [if_neg (show ¬ nI 1 = 0 by decide), if_pos (show nI 1 = 1 from rfl)]
    by_cases q : 9 < v
    · rw [if_pos (show 9 < nI v from nI_lt (a := 9) q (by omega))]
      rw [show decide (cbL 1 ≤ v ∧ v ≤ cbM 1) = decide (0 ≤ v ∧ v ≤ 9) from rfl, decide_eq_false (by omega)]; rfl
    · rw [if_neg (show ¬ 9 < nI v from nI_nlt (b := v) (a := 9) (by omega) (by decide))]
      rw [show decide (cbL 1 ≤ v ∧ v ≤ cbM 1) = decide (0 ≤ v ∧ v ≤ 9) from rfl, decide_eq_true (by omega)]; rfl
  · rw [if_neg (show ¬ nI 2 = 0 by decide), if_neg (show ¬ nI 2 = 1 by decide), if_pos (show nI 2 = 2 from rfl)]
    exact lt1
  · rw [if_neg (show ¬ nI 3 = 0 by decide), if_neg (show ¬ nI 3 = 1 by decide), if_neg (show ¬ nI 3 = 2 by decide), if_pos (show nI 3 = 3 from rfl)]
    exact lt1
  · rw [if_neg (show ¬ nI 4 = 0 by decide), if_neg (show ¬ nI 4 = 1 by decide), if_neg (show ¬ nI 4 = 2 by decide), if_neg (show ¬ nI 4 = 3 by decide), if_pos (show nI 4 = 4 from rfl), show (1 : Int32) = nI 1 from rfl, show (20 : Int32) = nI 20 from rfl, lies_n (by decide) (by decide) (by omega), bn_s, gz_n1]
    rfl
  · rw [if_neg (show ¬ nI 5 = 0 by decide), if_neg (show ¬ nI 5 = 1 by decide), if_neg (show ¬ nI 5 = 2 by decide), if_neg (show ¬ nI 5 = 3 by decide), if_neg (show ¬ nI 5 = 4 by decide), if_pos (show nI 5 = 5 from rfl)]
    by_cases q : 100 < v
    · rw [if_pos (show 100 < nI v from nI_lt (a := 100) q (by omega))]
      rw [show decide (cbL 5 ≤ v ∧ v ≤ cbM 5) = decide (0 ≤ v ∧ v ≤ 100) from rfl, decide_eq_false (by omega)]; rfl
    · rw [if_neg (show ¬ 100 < nI v from nI_nlt (b := v) (a := 100) (by omega) (by decide))]
      rw [show decide (cbL 5 ≤ v ∧ v ≤ cbM 5) = decide (0 ≤ v ∧ v ≤ 100) from rfl, decide_eq_true (by omega)]; rfl
theorem fault_s (a k : Nat) : fX2_faultAt (nI a) (nI k) = some (nI (100 * a + k)) := by
  show some (nI 100 * nI a + nI k) = _
  rw [pk_mul, nI_add]
/-- the reference's one clause, and what comes behind it -/
def bM (k11 : Int32 → Int32 → Int32 → St_ → Option (Int32 × St_)) (x1 x2 x3 : Int32) (σ : St_) : Option (Int32 × St_) := (bn_ (fX6_at x2 x1 σ) fun r2 => (bn_ (fX6_letter r2) fun r3 => (if r3 = (-1) then fX6_reads_33  x2 σ else (bn_ (fX6_at (x2 + 1) x1 σ) fun r4 => (bn_ (fX6_lies r4 48 57) fun r5 => (if r5 = 0 then fX6_reads_57  (x2 + 1) σ else fX6_reads_69 k11 FU_ x1 (x2 + 1) x3 r3 (x2 + 1) 0 σ))))))
theorem clause {x m : St_} {n : Nat} {T : Nat → Nat} (h : Tp x m n T) (D D' : Nat → Int32) (k : Nat) (hk : k ≤ n) (k11 : Int32 → Int32 → Int32 → St_ → Option (Int32 × St_)) (x3 : Int32) :
  (∃ R k2, 0 < R ∧ R < 10000 ∧ fX2_readClause (st_ x D k) = some (nI R, st_ x D k2) ∧ bM k11 (nI n) (nI k) x3 (uA m 6 D') = some (nI R, uA m 6 D')) ∨
  (∃ c v k2, c < 6 ∧ k2 ≤ n ∧ v < 10000 ∧ cb c v = true ∧ fX2_readClause (st_ x D k) = some (0, st_ x (upd D c (nI v)) k2) ∧ bM k11 (nI n) (nI k) x3 (uA m 6 D') = (if nI k2 = nI n then some (0, uA m 6 (upd D' c (nI v))) else (bn_ (fX6_at (nI k2) (nI n) (uA m 6 (upd D' c (nI v)))) fun r16 => (if r16 = 59 then k11 (nI n) (nI k2 + 1) (x3 + 1) (uA m 6 (upd D' c (nI v))) else fX6_reads_166  (nI k2) (uA m 6 (upd D' c (nI v))))))) := by
  have hn := h.1
  have eX : fX2_readClause (st_ x D k) = (bn_ (fX3_at (sS (st_ x D k) 1) (st_ x D k)) fun r1 => (bn_ (fX2_kindOf r1) fun r2 => (bn_ (fX5_isBelow r2 6) fun r3 => (if r3 = 0 then (bn_ (fX2_faultAt (nI 1) (sS (st_ x D k) 1)) fun r16 => some (r16, (st_ x D k))) else (bn_ (fX3_hasDigitAt (sS (uS (st_ x D k) 1 ((sS (st_ x D k) 1) + 1)) 1) (uS (st_ x D k) 1 ((sS (st_ x D k) 1) + 1))) fun r4 => (if r4 = 0 then (bn_ (fX2_faultAt (nI 2) (sS (uS (st_ x D k) 1 ((sS (st_ x D k) 1) + 1)) 1)) fun r14 => some (r14, uS (st_ x D k) 1 ((sS (st_ x D k) 1) + 1))) else (bn_ (fX2_readDigits_4 FU_ (nI 0) (nI 0) (uS (st_ x D k) 1 ((sS (st_ x D k) 1) + 1))) fun r5 => (bn_ (fX3_hasDigitAt (sS r5.2 1) r5.2) fun r6 => (if r6 = 0 then (gd_ r2 6 fun j7 => (if r5.1 < (lsL.getD j7 0) then (bn_ (fX2_faultAt (nI 4) (sS (uS (st_ x D k) 1 ((sS (st_ x D k) 1) + 1)) 1)) fun r18 => some (r18, r5.2)) else (gd_ r2 6 fun j8 => (if r5.1 ≤ (lsM.getD j8 0) then (gd_ r2 6 fun j9 => some ((0 : Int32), uM r5.2 2 j9 r5.1)) else (bn_ (fX2_faultAt (nI 4) (sS (uS (st_ x D k) 1 ((sS (st_ x D k) 1) + 1)) 1)) fun r18 => some (r18, r5.2)))))) else (bn_ (fX2_faultAt (nI 3) (sS r5.2 1)) fun r12 => some (r12, r5.2))))))))))) := rfl
  rw [st_1 x D k, nI_1, st_S x D k (k + 1), st_1 x D (k + 1), atX h D k k (by omega), bn_s, fault_s, fault_s, fault_s, digX h D (k + 1) (k + 1) (by omega), bn_s, bn_s] at eX
  have eM : bM k11 (nI n) (nI k) x3 (uA m 6 D') = (bn_ (fX6_at (nI k) (nI n) (uA m 6 D')) fun r2 => (bn_ (fX6_letter r2) fun r3 => (if r3 = (-1) then fX6_reads_33 (nI k) (uA m 6 D') else (bn_ (fX6_at (nI k + 1) (nI n) (uA m 6 D')) fun r4 => (bn_ (fX6_lies r4 48 57) fun r5 => (if r5 = 0 then fX6_reads_57 (nI k + 1) (uA m 6 D') else fX6_reads_69 k11 FU_ (nI n) (nI k + 1) x3 r3 (nI k + 1) 0 (uA m 6 D'))))))) := rfl
  rw [atM h D' k (by omega), bn_s, nI_1] at eM
  have bad : fX2_kindOf (if k < n then nI (T k) else -1) = some (-1) → fX6_letter (if k < n then nI (T k) else 0) = some (-1) → (∃ R k2, 0 < R ∧ R < 10000 ∧ fX2_readClause (st_ x D k) = some (nI R, st_ x D k2) ∧ bM k11 (nI n) (nI k) x3 (uA m 6 D') = some (nI R, uA m 6 D')) := by
    intro q1 q2
    rw [q1, bn_s, show fX5_isBelow (-1) 6 = some 0 from isBelow_0 (N := 6) (Or.inl (by decide)), bn_s, if_pos rfl] at eX
    rw [q2, bn_s, if_pos rfl] at eM
    refine ⟨100 * 1 + k, k, by omega, by omega, eX, ?_⟩
    rw [eM]
    show some (nI 100 + nI k, _) = _
    rw [nI_add]
  by_cases q : k < n
  · rw [if_pos q] at eX eM
    rw [if_pos q, if_pos q] at bad
    have hb := (h.2.2 k q).1
    rcases let_d hb with e | ⟨c, hc, e⟩
    · exact Or.inl (bad ((let_b _ hb).trans e) e)
    · rw [let_b _ hb, e, bn_s, show fX5_isBelow (nI c) 6 = some 1 from isBelow_1 (N := 6) hc (by decide), bn_s, if_neg one0, bn_s, ite_n] at eX
      have nm : ¬ nI c = -1 := fun z => nI_pos (n := c) (by omega) (by rw [z]; decide)
      rw [e, bn_s, if_neg nm, digM h D' (k + 1) (by omega), ite_n] at eM
      by_cases q2 : dg n T (k + 1) = true
      · rw [if_pos q2] at eX eM
        have hk1 : k + 1 < n := (of_decide_eq_true q2).1
        obtain ⟨i', v, hi', hv, d1, d2⟩ := digits h D D' (k + 1) k11 x3 (nI c) 4 0 0 FU_ FU_ rfl (by omega) (by decide) (by decide) (by decide)
        rw [Nat.add_zero] at d1 d2
        rw [d1, bn_s] at eX
        dsimp only at eX
        rw [st_1, digX h D _ _ (by omega), bn_s, ite_n, bn_s, canX hc hv, st_M, fault_s, bn_s] at eX
        replace eM := eM.trans d2
        by_cases q3 : dg n T (k + 1 + i') = true
        · rw [if_pos q3] at eX eM
          refine Or.inl ⟨100 * 3 + (k + 1 + i'), _, by omega, by omega, eX, ?_⟩
          rw [eM]
          show some (nI 300 + nI (k + 1 + i'), _) = _
          rw [nI_add]
        · rw [if_neg q3] at eX eM
          unfold fX6_reads_122 at eM
          rw [canM hc hv, bn_s, ite_n, gd_s hc (by decide), uM_uA] at eM
          by_cases q4 : cb c v = true
          · rw [if_pos q4] at eX eM
            refine Or.inr ⟨c, v, k + 1 + i', hc, hi', hv, q4, eX, ?_⟩
            rw [eM]
          · rw [if_neg q4] at eX eM
            refine Or.inl ⟨100 * 4 + (k + 1), _, by omega, by omega, eX, ?_⟩
            rw [eM]
            show some (nI 400 + nI (k + 1), _) = _
            rw [nI_add]
      · rw [if_neg q2] at eX eM
        refine Or.inl ⟨100 * 2 + (k + 1), k + 1, by omega, by omega, eX, ?_⟩
        rw [eM]
        show some (nI 200 + nI (k + 1), _) = _
        rw [nI_add]
  · rw [if_neg q, if_neg q] at bad
    exact Or.inl (bad rfl (by decide))
