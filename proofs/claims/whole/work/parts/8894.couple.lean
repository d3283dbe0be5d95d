/-! BOTH choose the same pairs -/
/-- the two plans, while pairs are settled one by one -/
def Cp (E : Mx) (n N V Tm : Nat) (T U : Nat → Bool) (x m : St_) (M P A : Mx) : Prop :=
  Wv x M A T U N V ∧ Fe V N M ∧ tot M = Tm ∧ Gp m P A n N V ∧
  (∀ v f, A v f = false → M v f = P v f) ∧ (∀ v f, A v f = true → E v f = true) ∧ (∀ v f, P v f = true → E v f = true)
theorem pair_s {E : Mx} {n N V Tm f v : Nat} {T U : Nat → Bool} {x m : St_} {M P A : Mx} (hmax : ∀ M', Fe V N M' → (∀ a c, a < 10 → c < 10 → E a c = false → M' a c = false) → tot M' ≤ Tm) (h : Cp E n N V Tm T U x m M P A) (hv : v < n) (hf : f < n) (k15 : Int32 → Int32 → Int32 → St_ → Option St_) (x1 : Int32) (k85 : Int32 → Int32 → St_ → Option (Int32 × St_)) (fu : Nat) : ∃ x' m' M' P', Cp E n N V Tm T U x' m' M' P' (up A v f false) ∧ Fr x x' ∧ Fq m m' ∧ lsS k15 x1 v f x = k15 x1 (nI f) (nI (v + 1)) x' ∧ fX6_lay_95 k85 (fu + 1) (nI Tm) (nI f) (nI v) m = fX6_lay_95 k85 fu (nI Tm) (nI f) (nI (v + 1)) m' := by
  obtain ⟨hW, hF, hT, hG, hE1, hE2, hE3⟩ := h
  have hn := hG.1.2.1
  have hv10 : v < 10 := by omega
  have hf10 : f < 10 := by omega
  have hix : 10 * v + f < 100 := by omega
  have hTm : Tm ≤ 100 := by rw [← hT]; exact tot_100 M
  obtain ⟨x', M', a1, a2, a3, a4, a5, a6, a7⟩ := least_step hW hF hv10 hf10 k15 x1
  obtain ⟨⟨g2, gn, gN, gV, bN, bV⟩, g20, g21, gO, gP⟩ := hG
  have eq : fX6_lay_95 k85 (fu + 1) (nI Tm) (nI f) (nI v) m = (if (sS m 2) ≤ nI v then fX6_lay_166 (k85) (nI Tm) (nI f) m else (gd_ ((10 * nI v) + nI f) 100 fun j11 => (if (sM m 21 j11) = 0 then fX6_lay_95 k85 fu (nI Tm) (nI f) (nI v + 1) m else (gd_ ((10 * nI v) + nI f) 100 fun j12 => (gd_ ((10 * nI v) + nI f) 100 fun j13 => (bn_ (fX6_most (uM (uM m 21 j12 (vp_nar .boolean 0)) 20 j13 (vp_nar .boolean 1))) fun r14 => (if r14.1 = nI Tm then fX6_lay_159 (k85) (fX6_lay_95 k85 fu) (nI Tm) (nI f) (nI v) 1 ((10 * nI v) + nI f) r14.2 else fX6_lay_159 (k85) (fX6_lay_95 k85 fu) (nI Tm) (nI f) (nI v) 0 ((10 * nI v) + nI f) r14.2))))))) := rfl
  rw [g2, if_neg (nI_ge hv (by omega)), ix_10, gd_s hix (by decide), g21 v f hv10 hf10, ite_n, nI_1] at eq
  cases hA : A v f
  · have eA : up A v f false = A := by
      funext a c
      by_cases e : a = v ∧ c = f
      · rw [e.1, e.2, up_s, hA]
      · rw [up_n A false e]
    rw [hA, if_neg (by decide)] at eq
    rw [eA] at a3 ⊢
    exact ⟨x', m, M', P, ⟨a3, a4, a5.trans hT, ⟨⟨g2, gn, gN, gV, bN, bV⟩, g20, g21, gO, gP⟩, fun a c q => (a6 a c q).trans (hE1 a c q), hE2, hE3⟩, a2, Fq_r m, a1, eq⟩
  · rw [hA, if_pos rfl, gd_s hix (by decide), gd_s hix (by decide), nar0, nar1] at eq
    have hG1 : Gp (uM (uM m 21 (10 * v + f) 0) 20 (10 * v + f) 1) (up P v f true) (up A v f false) n N V := by
      refine ⟨⟨g2, gn, gN, gV, bN, bV⟩, ?_, ?_, ?_, ?_⟩
      · intro a c ha hc
        show upd (sM m 20) (10 * v + f) 1 (10 * a + c) = _
        by_cases e : a = v ∧ c = f
        · rw [e.1, e.2, upd_s, up_s]
          rfl
        · rw [upd_n _ _ (by omega), up_n P true e]
          exact g20 a c ha hc
      · intro a c ha hc
        show upd (sM m 21) (10 * v + f) 0 (10 * a + c) = _
        by_cases e : a = v ∧ c = f
        · rw [e.1, e.2, upd_s, up_s]
          rfl
        · rw [upd_n _ _ (by omega), up_n A false e]
          exact g21 a c ha hc
      · intro a c q
        by_cases e : a = v ∧ c = f
        · rw [e.1, e.2, up_s] at q
          cases q
        · rw [up_n A false e] at q
          exact gO a c q
      · intro a c q
        by_cases e : a = v ∧ c = f
        · rw [e.1, e.2, up_s] at q
          cases q
        · rw [up_n A false e] at q
          rw [up_n P true e]
          exact gP a c q
    obtain ⟨r, m2, b1, b2, b3⟩ := most_s hG1
    rw [b1, bn_s] at eq
    dsimp only at eq
    -- the reference keeps the pair as the class does
    have key : r = nI Tm ↔ M' v f = true := by
      rw [a7 hA]
      constructor
      · intro hr
        rcases b3 with ⟨z, -⟩ | ⟨Ms, c1, c2, c3, c4⟩
        · rw [z] at hr
          exact absurd hr.symm (nI_m1 (by omega))
        · rw [hr] at c1
          have ht : Tm = tot Ms := (nI_eq (by omega) (by have := tot_100 Ms; omega)).mp c1
          refine ⟨Ms, c2, ?_, ?_, by rw [hT, ht]⟩
          · intro a c ha hc q
            have ne : ¬ (a = v ∧ c = f) := fun e => by rw [e.1, e.2, hA] at q; cases q
            rw [c3 a c (by rw [up_n A false ne]; exact q), up_n P true ne, hE1 a c q]
          · rw [c3 v f (up_s A v f false), up_s]
      · rintro ⟨M2, d1, d2, d3, d4⟩
        have off : ∀ a c, a < 10 → c < 10 → up A v f false a c = false → M2 a c = up P v f true a c := by
          intro a c ha hc q
          by_cases e : a = v ∧ c = f
          · rw [e.1, e.2, up_s, d3]
          · rw [up_n A false e] at q
            rw [up_n P true e, d2 a c ha hc q, hE1 a c q]
        rcases b3 with ⟨-, z⟩ | ⟨Ms, c1, c2, c3, c4⟩
        · exact absurd d1 (z M2 off)
        · have l1 := c4 M2 d1 off
          have l2 := hmax Ms c2 (by
            intro a c ha hc q
            have ne : ¬ (a = v ∧ c = f) := fun e => by
              have := hE2 v f hA
              rw [e.1, e.2, this] at q
              cases q
            have hAf : A a c = false := by
              cases z : A a c
              · rfl
              · rw [hE2 a c z] at q; cases q
            rw [c3 a c (by rw [up_n A false ne]; exact hAf), up_n P true ne]
            cases z : P a c
            · rfl
            · rw [hE3 a c z] at q; cases q)
          have : tot Ms = Tm := by omega
          rw [c1, this]
    have eq2 : fX6_lay_95 k85 (fu + 1) (nI Tm) (nI f) (nI v) m = fX6_lay_95 k85 fu (nI Tm) (nI f) (nI (v + 1)) (uM m2 20 (10 * v + f) (nI (n1 (M' v f)))) := by
      rw [eq]
      unfold fX6_lay_159 fX6_lay_160
      rw [gd_s hix (by decide), gd_s hix (by decide), nI_1, nar0, nar1]
      by_cases hr : r = nI Tm
      · rw [if_pos hr, key.mp hr]
        rfl
      · rw [if_neg hr]
        cases hm : M' v f
        · rfl
        · exact absurd (key.mpr hm) hr
    have f20 := b2.2.2 20 (by decide)
    have f21 := b2.2.2 21 (by decide)
    have f5 := b2.2.2 5 (by decide)
    refine ⟨x', _, M', up P v f (M' v f), ⟨a3, a4, a5.trans hT, ⟨⟨?_, gn, ?_, ?_, bN, bV⟩, ?_, ?_, hG1.2.2.2.1, ?_⟩, ?_, ?_, ?_⟩, a2, ?_, a1, eq2⟩
    · exact (congrFun b2.1 2).trans g2
    · show sM m2 5 0 = _
      rw [f5]; exact gN
    · show sM m2 5 1 = _
      rw [f5]; exact gV
    · intro a c ha hc
      show upd (sM m2 20) (10 * v + f) (nI (n1 (M' v f))) (10 * a + c) = _
      by_cases e : a = v ∧ c = f
      · rw [e.1, e.2, upd_s, up_s]
      · rw [upd_n _ _ (by omega), up_n P _ e, f20]
        have := hG1.2.1 a c ha hc
        rw [up_n P true e] at this
        exact this
    · intro a c ha hc
      show sM m2 21 (10 * a + c) = _
      rw [f21]
      exact hG1.2.2.1 a c ha hc
    · intro a c q
      have := hG1.2.2.2.2 a c q
      by_cases e : a = v ∧ c = f
      · rw [e.1, e.2, up_s] at q
        cases q
      · rw [up_n P true e] at this
        rw [up_n P _ e]
        exact this
    · intro a c q
      by_cases e : a = v ∧ c = f
      · rw [e.1, e.2, up_s]
      · rw [up_n A false e] at q
        rw [up_n P _ e, a6 a c q, hE1 a c q]
    · intro a c q
      by_cases e : a = v ∧ c = f
      · rw [e.1, e.2, up_s] at q
        cases q
      · rw [up_n A false e] at q
        exact hE2 a c q
    · intro a c q
      by_cases e : a = v ∧ c = f
      · rw [e.1, e.2]
        exact hE2 v f hA
      · rw [up_n P _ e] at q
        exact hE3 a c q
    · exact Fq_t (Fq_t (Fq_t (Fq_A m (k := 21) (by decide) _) (Fq_A _ (k := 20) (by decide) _)) (Fq_m b2)) (Fq_A _ (k := 20) (by decide) _)
/-- what is left lies at (f, v) or behind -/
def Lx (f v : Nat) (A : Mx) : Prop := ∀ a c, A a c = true → f < c ∨ (c = f ∧ v ≤ a)
theorem rows15 {E : Mx} {n N V Tm f : Nat} {T U : Nat → Bool} (hmax : ∀ M', Fe V N M' → (∀ a c, a < 10 → c < 10 → E a c = false → M' a c = false) → tot M' ≤ Tm) (hf : f < n) (hn : n ≤ 10) (k2 : Int32 → Int32 → St_ → Option St_) (k85 : Int32 → Int32 → St_ → Option (Int32 × St_)) : ∀ d fu gu v x m M P A, v + d = n → d < fu → d < gu → Cp E n N V Tm T U x m M P A → Lx f v A → ∃ x' m' M' P' A', Cp E n N V Tm T U x' m' M' P' A' ∧ Lx (f + 1) 0 A' ∧ Fr x x' ∧ Fq m m' ∧ fX1_planLeastRow_15 k2 fu (nI n) (nI f) (nI v) x = k2 (nI n) (nI (f + 1)) x' ∧ fX6_lay_95 k85 gu (nI Tm) (nI f) (nI v) m = k85 (nI Tm) (nI (f + 1)) m'
  | d, 0, _, _, _, _, _, _, _, _, h, _, _, _ => absurd h (Nat.not_lt_zero d)
  | d, _, 0, _, _, _, _, _, _, _, _, h, _, _ => absurd h (Nat.not_lt_zero d)
  | 0, fu + 1, gu + 1, v, x, m, M, P, A, hv, _, _, hC, hL => by
    have ev : v = n := by omega
    subst ev
    refine ⟨x, m, M, P, A, hC, ?_, Fr_r x, Fq_r m, ?_, ?_⟩
    · intro a c q
      have h1 := hC.2.2.2.1.2.2.2.1 a c q
      have h2 := hL a c q
      omega
    · show (if nI v ≤ nI v then fX1_planLeastRow_91 k2 (nI v) (nI f) x else _) = _
      rw [if_pos (nI_le (Nat.le_refl v) (by omega))]
      unfold fX1_planLeastRow_91
      rw [nI_1]
    · show (if sS m 2 ≤ nI v then fX6_lay_166 k85 (nI Tm) (nI f) m else _) = _
      rw [hC.2.2.2.1.1.1, if_pos (nI_le (Nat.le_refl v) (by omega))]
      unfold fX6_lay_166
      rw [nI_1]
  | d + 1, fu + 1, gu + 1, v, x, m, M, P, A, hv, hfu, hgu, hC, hL => by
    obtain ⟨x1, m1, M1, P1, a1, a2, a3, a4, a5⟩ := pair_s hmax hC (v := v) (f := f) (by omega) hf (fX1_planLeastRow_15 k2 fu) (nI n) k85 gu
    obtain ⟨x2, m2, M2, P2, A2, b1, b2, b3, b4, b5, b6⟩ := rows15 hmax hf hn k2 k85 d fu gu (v + 1) x1 m1 M1 P1 (up A v f false) (by omega) (by omega) (by omega) a1 (by
      intro a c q
      by_cases e : a = v ∧ c = f
      · rw [e.1, e.2, up_s] at q
        cases q
      · rw [up_n A false e] at q
        have := hL a c q
        omega)
    refine ⟨x2, m2, M2, P2, A2, b1, b2, Fr_t a2 b3, Fq_t a3 b4, ?_, a5.trans b6⟩
    rw [← b5, ← a4]
    show (if nI n ≤ nI v then fX1_planLeastRow_91 (k2) (nI n) (nI f) x else (if 10 ≤ nI v then fX1_planLeastRow_91 (k2) (nI n) (nI f) x else lsS (fX1_planLeastRow_15 k2 fu) (nI n) v f x)) = _
    rw [if_neg (nI_ge (by omega) (by omega)), if_neg (nle_10 (by omega))]
theorem rows2 {E : Mx} {n N V Tm : Nat} {T U : Nat → Bool} (hmax : ∀ M', Fe V N M' → (∀ a c, a < 10 → c < 10 → E a c = false → M' a c = false) → tot M' ≤ Tm) (hn : n ≤ 10) : ∀ d fu gu f x m M P A, f + d = n → d < fu → d < gu → Cp E n N V Tm T U x m M P A → Lx f 0 A → ∃ x' m' M' P' A', Cp E n N V Tm T U x' m' M' P' A' ∧ Lx n 0 A' ∧ Fr x x' ∧ Fq m m' ∧ fX1_planLeastRow_2 fu (nI n) (nI f) x = some x' ∧ fX6_lay_85 gu (nI Tm) (nI f) m = fX6_lay_172 (nI Tm) m'
  | d, 0, _, _, _, _, _, _, _, _, h, _, _, _ => absurd h (Nat.not_lt_zero d)
  | d, _, 0, _, _, _, _, _, _, _, _, h, _, _ => absurd h (Nat.not_lt_zero d)
  | 0, fu + 1, gu + 1, f, x, m, M, P, A, hf, _, _, hC, hL => by
    have ev : f = n := by omega
    subst ev
    refine ⟨x, m, M, P, A, hC, hL, Fr_r x, Fq_r m, ?_, ?_⟩
    · show (if nI f ≤ nI f then some x else _) = _
      rw [if_pos (nI_le (Nat.le_refl f) (by omega))]
    · show (if sS m 2 ≤ nI f then fX6_lay_172 (nI Tm) m else _) = _
      rw [hC.2.2.2.1.1.1, if_pos (nI_le (Nat.le_refl f) (by omega))]
  | d + 1, fu + 1, gu + 1, f, x, m, M, P, A, hf, hfu, hgu, hC, hL => by
    obtain ⟨x1, m1, M1, P1, A1, a1, a2, a3, a4, a5, a6⟩ := rows15 hmax (f := f) (by omega) hn (fX1_planLeastRow_2 fu) (fX6_lay_85 gu) n FU_ FU_ 0 x m M P A (by omega) (by show n < 300; omega) (by show n < 300; omega) hC hL
    obtain ⟨x2, m2, M2, P2, A2, b1, b2, b3, b4, b5, b6⟩ := rows2 hmax hn d fu gu (f + 1) x1 m1 M1 P1 A1 (by omega) (by omega) (by omega) a1 a2
    refine ⟨x2, m2, M2, P2, A2, b1, b2, Fr_t a3 b3, Fq_t a4 b4, ?_, ?_⟩
    · show (if nI n ≤ nI f then some x else (if 10 ≤ nI f then some x else fX1_planLeastRow_15 (fX1_planLeastRow_2 fu) FU_ (nI n) (nI f) (nI 0) x)) = _
      rw [if_neg (nI_ge (by omega) (by omega)), if_neg (nle_10 (by omega)), a5, b5]
    · show (if sS m 2 ≤ nI f then fX6_lay_172 (nI Tm) m else fX6_lay_95 (fX6_lay_85 gu) FU_ (nI Tm) (nI f) (nI 0) m) = _
      rw [hC.2.2.2.1.1.1, if_neg (nI_ge (by omega) (by omega)), a6, b6]
