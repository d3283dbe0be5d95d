/-! THE LEAST ROW, one pair -/
theorem close_s {σ : St_} {M A : Mx} {T U : Nat → Bool} {N V v f : Nat} {α : Type} (h : Wv σ M A T U N V) (hv : v < 10) (hf : f < 10) (K : St_ → Option α) : ∃ σ', (bn_ (fX1_setWay (nI v) (nI (10 + f)) 0 σ) fun r13 => (bn_ (fX1_setWay (nI (10 + f)) (nI v) 0 r13) fun r14 => K r14)) = K σ' ∧ Fr σ σ' ∧ Wv σ' M (up A v f false) T U N V := by
  obtain ⟨w1, w8, w9, w5, wA⟩ := h
  obtain ⟨X1, e1, g1⟩ := setWay_s σ (u := v) (w := 10 + f) (by omega) (by omega) false
  obtain ⟨X2, e2, g2⟩ := setWay_s (uA σ 5 X1) (u := 10 + f) (w := v) (by omega) (by omega) false
  rw [uA_uA] at e2
  refine ⟨uA σ 5 X2, ?_, Fr_A σ (by decide) X2, w1, w8, w9, ?_, ?_⟩
  · rw [show fX1_setWay (nI v) (nI (10 + f)) 0 σ = _ from e1, bn_s, show fX1_setWay (nI (10 + f)) (nI v) 0 (uA σ 5 X1) = _ from e2, bn_s]
  · intro u w hu
    show bt (X2 u) w = _
    rw [g2, sM_A, g1, w5 u w hu]
    rcases wy_cases u w hu with ⟨a, c, ha, hc, rfl, rfl⟩ | ⟨a, c, ha, hc, rfl, rfl⟩ | ⟨a, ha, rfl, rfl⟩ | ⟨a, ha, rfl, rfl⟩ | ⟨c, hc, rfl, rfl⟩ | ⟨c, hc, rfl, rfl⟩ | ⟨h0, n1, n2, n3, n4, n5, n6⟩
    · rw [if_neg (by omega), wy_vf _ _ _ _ _ _ ha hc, wy_vf _ _ _ _ _ _ ha hc]
      by_cases e : u = v ∧ c = f
      · rw [if_pos (by omega), e.1, e.2, up_s]
        rfl
      · rw [if_neg (by omega), up_n A false e]
    · rw [wy_fv _ _ _ _ _ _ ha hc, wy_fv _ _ _ _ _ _ ha hc]
      by_cases e : w = v ∧ c = f
      · rw [if_pos (by omega), e.1, e.2, up_s]
        rfl
      · rw [if_neg (by omega), if_neg (by omega), up_n A false e]
    · rw [if_neg (by omega), if_neg (by omega), wy_vS _ _ _ _ _ _ ha, wy_vS _ _ _ _ _ _ ha]
    · rw [if_neg (by omega), if_neg (by omega), wy_Sv _ _ _ _ _ _ ha, wy_Sv _ _ _ _ _ _ ha]
    · rw [if_neg (by omega), if_neg (by omega), wy_fK _ _ _ _ _ _ hc, wy_fK _ _ _ _ _ _ hc]
    · rw [if_neg (by omega), if_neg (by omega), wy_Kf _ _ _ _ _ _ hc, wy_Kf _ _ _ _ _ _ hc]
    · rw [if_neg (by omega), if_neg (by omega), h0, h0]
  · intro a c q
    by_cases e : a = v ∧ c = f
    · rw [e.1, e.2, up_s] at q
      cases q
    · rw [up_n A false e] at q
      exact wA a c q
theorem cyc_of_cut {M A M' : Mx} {T U : Nat → Bool} {N V v f : Nat} {R : Nat → Bool} (hA : ∀ v f, A v f = true → v < 10 ∧ f < 10 ∧ T v = true ∧ U f = true) (hv : v < 10) (hf : f < 10) (h1 : R (10 + f) = true) (h2 : R v = false) (hc : ∀ u w, R u = true → wyB M A T U N V u w = true → R w = true) (m0 : M v f = false) (hF : Fe V N M') (hE : ∀ v f, v < 10 → f < 10 → A v f = false → M' v f = M v f) (m1 : M' v f = true) (ht : tot M' = tot M) : False := by
  refine L_cyc (A := A) (M := M) (M' := M') (X := fun v => R v) (Y := fun f => R (10 + f)) (so := R 20) (si := R 21) hv hf h2 h1 m0 m1 ht hE ?_ ?_ ?_ ?_ ?_ ?_
  · intro v f hv hf hx hy ha
    cases hm : M v f
    · have := hc v (10 + f) hx (by rw [wy_vf _ _ _ _ _ _ hv hf, ha, hm]; rfl)
      rw [hy] at this
      cases this
    · rfl
  · intro v f hv hf hx hy ha
    cases hm : M v f
    · rfl
    · have := hc (10 + f) v hy (by rw [wy_fv _ _ _ _ _ _ hv hf, ha, hm]; rfl)
      rw [hx] at this
      cases this
  · intro hs v hv hx
    cases hT : T v
    · have : row M' v = row M v := cn_congr 10 (fun f hf => hE v f hv hf (by
        cases ha : A v f
        · rfl
        · rw [(hA v f ha).2.2.1] at hT; cases hT))
      omega
    · rcases Nat.eq_zero_or_pos (row M v) with q | q
      · omega
      · have := hc v 20 hx (by rw [wy_vS _ _ _ _ _ _ hv, hT, decide_eq_true q]; rfl)
        rw [hs] at this
        cases this
  · intro hs v hv hx
    cases hT : T v
    · have : row M' v = row M v := cn_congr 10 (fun f hf => hE v f hv hf (by
        cases ha : A v f
        · rfl
        · rw [(hA v f ha).2.2.1] at hT; cases hT))
      omega
    · rcases Nat.lt_or_ge (row M v) V with q | q
      · have := hc 20 v hs (by rw [wy_Sv _ _ _ _ _ _ hv, hT, decide_eq_true q]; rfl)
        rw [hx] at this
        cases this
      · have := hF.1 v hv
        omega
  · intro hs f hf hy
    cases hU : U f
    · have : col M' f = col M f := cn_congr 10 (fun v hv => hE v f hv hf (by
        cases ha : A v f
        · rfl
        · rw [(hA v f ha).2.2.2] at hU; cases hU))
      omega
    · rcases Nat.lt_or_ge (col M f) N with q | q
      · have := hc (10 + f) 21 hy (by rw [wy_fK _ _ _ _ _ _ hf, hU, decide_eq_true q]; rfl)
        rw [hs] at this
        cases this
      · have := hF.2 f hf
        omega
  · intro hs f hf hy
    cases hU : U f
    · have : col M' f = col M f := cn_congr 10 (fun v hv => hE v f hv hf (by
        cases ha : A v f
        · rfl
        · rw [(hA v f ha).2.2.2] at hU; cases hU))
      omega
    · rcases Nat.eq_zero_or_pos (col M f) with q | q
      · omega
      · have := hc 21 (10 + f) hs (by rw [wy_Kf _ _ _ _ _ _ hf, hU, decide_eq_true q]; rfl)
        rw [hy] at this
        cases this
/-- what the class does with one pair -/
def lsS (k15 : Int32 → Int32 → Int32 → St_ → Option St_) (x1 : Int32) (v f : Nat) (σ : St_) : Option St_ := (bn_ (fX1_placeVisited (nI f)) fun r3 => (gd_ (nI v) 22 fun j4 => (bn_ (fX5_hasBit (sM σ 5 j4) r3) fun r5 => (if r5 = 0 then fX1_planLeastRow_69 (fun _ _ s => some s) k15 x1 (nI f) (nI v) r3 σ else (bn_ (fX1_findPath r3 (nI v) σ) fun r6 => (if r6.1 = 0 then fX1_planLeastRow_69 (fun _ _ s => some s) k15 x1 (nI f) (nI v) r3 r6.2 else (bn_ (fX1_followPath r3 (nI v) r6.2) fun r7 => (bn_ (fX1_addVisit (nI v) (nI f) r7) fun r8 => fX1_planLeastRow_69 (fun _ _ s => some s) k15 x1 (nI f) (nI v) r3 r8))))))))
theorem least_step {σ : St_} {M A : Mx} {T U : Nat → Bool} {N V v f : Nat} (hW : Wv σ M A T U N V) (hF : Fe V N M) (hv : v < 10) (hf : f < 10) (k15 : Int32 → Int32 → Int32 → St_ → Option St_) (x1 : Int32) : ∃ σ' M', lsS k15 x1 v f σ = k15 x1 (nI f) (nI (v + 1)) σ' ∧ Fr σ σ' ∧ Wv σ' M' (up A v f false) T U N V ∧ Fe V N M' ∧ tot M' = tot M ∧ (∀ a c, A a c = false → M' a c = M a c) ∧ (A v f = true → (M' v f = true ↔ ∃ M2, Fe V N M2 ∧ (∀ a c, a < 10 → c < 10 → A a c = false → M2 a c = M a c) ∧ M2 v f = true ∧ tot M2 = tot M)) := by
  unfold lsS fX1_planLeastRow_69
  rw [place_s, bn_s, gd_s (show v < 22 by omega) (by decide), hasBit_s _ (by omega), bn_s, hW.2.2.2.1 v (10 + f) (by omega), wy_vf _ _ _ _ _ _ hv hf, nI_1]
  cases hw : (A v f && !M v f)
  · rw [ite_f]
    obtain ⟨σ', s1, s2, s3⟩ := close_s hW hv hf (fun r14 => k15 x1 (nI f) (nI (v + 1)) r14)
    refine ⟨σ', M, s1, s2, s3, hF, rfl, fun _ _ _ => rfl, ?_⟩
    intro ha
    have hm : M v f = true := by
      rw [ha] at hw
      cases h : M v f
      · rw [h] at hw; cases hw
      · rfl
    exact ⟨fun _ => ⟨M, hF, fun _ _ _ _ _ => rfl, hm, rfl⟩, fun _ => hm⟩
  · rw [ite_t]
    rw [Bool.and_eq_true, Bool.not_eq_true'] at hw
    obtain ⟨r, σ1, g1, g2, g3, g4, g5⟩ := path_s (s0 := 10 + f) (t := v) hW hF (by omega) (Or.inl hv) (by omega)
    rw [g1, bn_s]
    dsimp only
    cases hr : r
    · rw [ite_f]
      obtain ⟨σ', s1, s2, s3⟩ := close_s g3 hv hf (fun r14 => k15 x1 (nI f) (nI (v + 1)) r14)
      obtain ⟨R, c1, c2, c3⟩ := g5 hr
      refine ⟨σ', M, s1, Fr_t g2 s2, s3, hF, rfl, fun _ _ _ => rfl, ?_⟩
      intro _
      constructor
      · intro z
        rw [hw.2] at z
        cases z
      · rintro ⟨M2, q1, q2, q3, q4⟩
        exact (cyc_of_cut hW.2.2.2.2 hv hf c1 c2 c3 hw.2 q1 q2 q3 q4).elim
    · rw [ite_t]
      obtain ⟨σ2, M2, k1, k2, k3, S, k4⟩ := g4 hr
      obtain ⟨j1, j2, j3, j4, j5, j6, j7, j8, j9, j10⟩ := k4
      have hm2 : M2 v f = false := by
        cases h : M2 v f
        · rfl
        · have := j9 f h
          rw [hw.2] at this
          cases this
      obtain ⟨σ3, a1, a2, a3, a4⟩ := add_s k3 hv hf hw.1 hm2
      obtain ⟨σ', s1, s2, s3⟩ := close_s a4 hv hf (fun r14 => k15 x1 (nI f) (nI (v + 1)) r14)
      rw [k1, bn_s, a1, bn_s]
      have e1 := row_up M2 (v := v) hf true
      have e2 := col_up M2 (f := f) hv true
      have e3 := tot_up M2 hv hf true
      rw [hm2] at e1 e2 e3
      have z0 : n1 false = 0 := rfl
      have z1 : n1 true = 1 := rfl
      have d1 : sd (10 + f) = 1 := if_neg (by omega)
      have d2 : sd v = 0 := if_pos (Or.inl hv)
      have hF2 : Fe V N (up M2 v f true) := by
        refine ⟨fun a ha => ?_, fun c hc => ?_⟩
        · have := j5 a ha (by omega)
          by_cases e : a = v
          · rw [if_pos e] at this
            rw [e] at this ⊢
            omega
          · rw [row_up' M2 e]
            omega
        · by_cases e : c = f
          · have := j8 c hc (by omega)
            rw [e] at this ⊢
            omega
          · rw [col_up' M2 e]
            exact j7 c hc (by omega)
      have hE2 : ∀ a c, A a c = false → up M2 v f true a c = M a c := by
        intro a c q
        rw [up_n M2 true (fun z => by rw [z.1, z.2, hw.1] at q; cases q)]
        exact j10 a c q
      refine ⟨σ', up M2 v f true, s1, Fr_t (Fr_t (Fr_t g2 k2) a2) s2, s3, hF2, by omega, hE2, ?_⟩
      intro _
      exact ⟨fun _ => ⟨_, hF2, fun a c _ _ q => hE2 a c q, up_s _ _ _ _, by omega⟩, fun _ => up_s _ _ _ _⟩
