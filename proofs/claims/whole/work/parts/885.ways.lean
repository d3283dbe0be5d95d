/-! THE CLASS'S WAYS -/
def wyB (M A : Mx) (T U : Nat → Bool) (N V : Nat) (u w : Nat) : Bool :=
  if u < 10 then (if w < 10 then false else if w < 20 then A u (w - 10) && !M u (w - 10) else if w = 20 then T u && decide (0 < row M u) else false)
  else if u < 20 then (if w < 10 then A w (u - 10) && M w (u - 10) else if w = 21 then U (u - 10) && decide (col M (u - 10) < N) else false)
  else if u = 20 then (if w < 10 then T w && decide (row M w < V) else false)
  else if u = 21 then (if 10 ≤ w ∧ w < 20 then U (w - 10) && decide (0 < col M (w - 10)) else false) else false
section
variable (M A : Mx) (T U : Nat → Bool) (N V : Nat) {v f : Nat}
theorem wy_vf (hv : v < 10) (hf : f < 10) : wyB M A T U N V v (10 + f) = (A v f && !M v f) := by
  unfold wyB
  rw [if_pos hv, if_neg (by omega), if_pos (by omega), show 10 + f - 10 = f by omega]
theorem wy_fv (hv : v < 10) (hf : f < 10) : wyB M A T U N V (10 + f) v = (A v f && M v f) := by
  unfold wyB
  rw [if_neg (by omega), if_pos (by omega), if_pos hv, show 10 + f - 10 = f by omega]
theorem wy_vS (hv : v < 10) : wyB M A T U N V v 20 = (T v && decide (0 < row M v)) := by
  unfold wyB
  rw [if_pos hv, if_neg (by decide), if_neg (by decide), if_pos rfl]
theorem wy_Sv (hv : v < 10) : wyB M A T U N V 20 v = (T v && decide (row M v < V)) := by
  unfold wyB
  rw [if_neg (by decide), if_neg (by decide), if_pos rfl, if_pos hv]
theorem wy_fK (hf : f < 10) : wyB M A T U N V (10 + f) 21 = (U f && decide (col M f < N)) := by
  unfold wyB
  rw [if_neg (by omega), if_pos (by omega), if_neg (by decide), if_pos rfl, show 10 + f - 10 = f by omega]
theorem wy_Kf (hf : f < 10) : wyB M A T U N V 21 (10 + f) = (U f && decide (0 < col M f)) := by
  unfold wyB
  rw [if_neg (by decide), if_neg (by decide), if_neg (by decide), if_pos rfl, if_pos (by omega), show 10 + f - 10 = f by omega]
end
theorem wy_cases (u w : Nat) (hu : u < 22) : (∃ v f, v < 10 ∧ f < 10 ∧ u = v ∧ w = 10 + f) ∨ (∃ v f, v < 10 ∧ f < 10 ∧ u = 10 + f ∧ w = v) ∨ (∃ v, v < 10 ∧ u = v ∧ w = 20) ∨ (∃ v, v < 10 ∧ u = 20 ∧ w = v) ∨ (∃ f, f < 10 ∧ u = 10 + f ∧ w = 21) ∨ (∃ f, f < 10 ∧ u = 21 ∧ w = 10 + f) ∨ ((∀ M A T U N V, wyB M A T U N V u w = false) ∧ ¬ (u < 10 ∧ 10 ≤ w ∧ w < 20) ∧ ¬ (10 ≤ u ∧ u < 20 ∧ w < 10) ∧ ¬ (u < 10 ∧ w = 20) ∧ ¬ (u = 20 ∧ w < 10) ∧ ¬ (10 ≤ u ∧ u < 20 ∧ w = 21) ∧ ¬ (u = 21 ∧ 10 ≤ w ∧ w < 20)) := by
  by_cases c1 : u < 10 ∧ 10 ≤ w ∧ w < 20
  · exact Or.inl ⟨u, w - 10, c1.1, by omega, rfl, by omega⟩
  refine Or.inr ?_
  by_cases c2 : 10 ≤ u ∧ u < 20 ∧ w < 10
  · exact Or.inl ⟨w, u - 10, c2.2.2, by omega, by omega, rfl⟩
  refine Or.inr ?_
  by_cases c3 : u < 10 ∧ w = 20
  · exact Or.inl ⟨u, c3.1, rfl, c3.2⟩
  refine Or.inr ?_
  by_cases c4 : u = 20 ∧ w < 10
  · exact Or.inl ⟨w, c4.2, c4.1, rfl⟩
  refine Or.inr ?_
  by_cases c5 : 10 ≤ u ∧ u < 20 ∧ w = 21
  · exact Or.inl ⟨u - 10, by omega, by omega, c5.2.2⟩
  refine Or.inr ?_
  by_cases c6 : u = 21 ∧ 10 ≤ w ∧ w < 20
  · exact Or.inl ⟨w - 10, by omega, c6.1, by omega⟩
  refine Or.inr ⟨?_, c1, c2, c3, c4, c5, c6⟩
  intro M A T U N V
  unfold wyB
  by_cases d1 : u < 10
  · rw [if_pos d1]
    by_cases d2 : w < 10
    · rw [if_pos d2]
    · rw [if_neg d2, if_neg (by omega), if_neg (by omega)]
  · rw [if_neg d1]
    by_cases d2 : u < 20
    · rw [if_pos d2, if_neg (by omega), if_neg (by omega)]
    · rw [if_neg d2]
      by_cases d3 : u = 20
      · rw [if_pos d3, if_neg (by omega)]
      · rw [if_neg d3]
        by_cases d4 : u = 21
        · rw [if_pos d4, if_neg (by omega)]
        · rw [if_neg d4]
theorem ways_up {M A : Mx} {T U : Nat → Bool} {N V v f : Nat} (b : Bool) (hv : v < 10) (hf : f < 10) (hA : A v f = true) (hT : T v = true) (hU : U f = true) (u w : Nat) (hu : u < 22) : (if u = 21 ∧ w = 10 + f then decide (0 < col (up M v f b) f) else if u = 10 + f ∧ w = 21 then decide (col (up M v f b) f < N) else if u = v ∧ w = 20 then decide (0 < row (up M v f b) v) else if u = 20 ∧ w = v then decide (row (up M v f b) v < V) else if u = 10 + f ∧ w = v then b else if u = v ∧ w = 10 + f then !b else wyB M A T U N V u w) = wyB (up M v f b) A T U N V u w := by
  rcases wy_cases u w hu with ⟨a, c, ha, hc, rfl, rfl⟩ | ⟨a, c, ha, hc, rfl, rfl⟩ | ⟨a, ha, rfl, rfl⟩ | ⟨a, ha, rfl, rfl⟩ | ⟨c, hc, rfl, rfl⟩ | ⟨c, hc, rfl, rfl⟩ | ⟨h0, n1, n2, n3, n4, n5, n6⟩
  · rw [if_neg (by omega), if_neg (by omega), if_neg (by omega), if_neg (by omega), if_neg (by omega), wy_vf _ _ _ _ _ _ ha hc, wy_vf _ _ _ _ _ _ ha hc]
    by_cases e : u = v ∧ c = f
    · rw [if_pos (by omega), e.1, e.2, up_s, hA]
      rfl
    · rw [if_neg (by omega), up_n M b e]
  · rw [if_neg (by omega), if_neg (by omega), if_neg (by omega), if_neg (by omega), wy_fv _ _ _ _ _ _ ha hc, wy_fv _ _ _ _ _ _ ha hc]
    by_cases e : w = v ∧ c = f
    · rw [if_pos (by omega), e.1, e.2, up_s, hA]
      rfl
    · rw [if_neg (by omega), if_neg (by omega), up_n M b e]
  · rw [if_neg (by omega), if_neg (by omega), wy_vS _ _ _ _ _ _ ha, wy_vS _ _ _ _ _ _ ha]
    by_cases e : u = v
    · rw [if_pos (by omega), e, hT]
      rfl
    · rw [if_neg (by omega), if_neg (by omega), if_neg (by omega), if_neg (by omega), row_up' M e]
  · rw [if_neg (by omega), if_neg (by omega), if_neg (by omega), wy_Sv _ _ _ _ _ _ ha, wy_Sv _ _ _ _ _ _ ha]
    by_cases e : w = v
    · rw [if_pos (by omega), e, hT]
      rfl
    · rw [if_neg (by omega), if_neg (by omega), if_neg (by omega), row_up' M e]
  · rw [if_neg (by omega), wy_fK _ _ _ _ _ _ hc, wy_fK _ _ _ _ _ _ hc]
    by_cases e : c = f
    · rw [if_pos (by omega), e, hU]
      rfl
    · rw [if_neg (by omega), if_neg (by omega), if_neg (by omega), if_neg (by omega), if_neg (by omega), col_up' M e]
  · rw [wy_Kf _ _ _ _ _ _ hc, wy_Kf _ _ _ _ _ _ hc]
    by_cases e : c = f
    · rw [if_pos (by omega), e, hU]
      rfl
    · rw [if_neg (by omega), if_neg (by omega), if_neg (by omega), if_neg (by omega), if_neg (by omega), if_neg (by omega), col_up' M e]
  · rw [if_neg (by omega), if_neg (by omega), if_neg (by omega), if_neg (by omega), if_neg (by omega), if_neg (by omega), h0, h0]
def Wv (σ : St_) (M A : Mx) (T U : Nat → Bool) (N V : Nat) : Prop :=
  (sS σ 3 = nI N ∧ sS σ 4 = nI V ∧ N ≤ 5 ∧ V ≤ 9) ∧
  (∀ f, f < 10 → ∀ i, bt (sM σ 8 f) i = (decide (i < 10) && M i f)) ∧
  (∀ v, v < 10 → sM σ 9 v = nI (row M v)) ∧
  (∀ u w, u < 22 → bt (sM σ 5 u) w = wyB M A T U N V u w) ∧
  (∀ v f, A v f = true → v < 10 ∧ f < 10 ∧ T v = true ∧ U f = true)
def Fr (σ σ' : St_) : Prop := σ'.1 = σ.1 ∧ σ'.2.2 = σ.2.2 ∧ ∀ a, a < 5 ∨ 9 < a → sM σ' a = sM σ a
theorem Fr_r (σ : St_) : Fr σ σ := ⟨rfl, rfl, fun _ _ => rfl⟩
theorem Fr_t {a b c : St_} (h : Fr a b) (g : Fr b c) : Fr a c := ⟨g.1.trans h.1, g.2.1.trans h.2.1, fun k hk => (g.2.2 k hk).trans (h.2.2 k hk)⟩
theorem Fr_A (σ : St_) {k : Nat} (hk : 5 ≤ k ∧ k ≤ 9) (F : Nat → Int32) : Fr σ (uA σ k F) := ⟨rfl, rfl, fun a ha => sM_N σ F (by omega)⟩
theorem setWay_s (σ : St_) {u w : Nat} (hu : u < 22) (hw : w < 32) (b : Bool) : ∃ X, fX1_setWay (nI u) (nI w) (nI (n1 b)) σ = some (uA σ 5 X) ∧ ∀ u' w', bt (X u') w' = if u' = u ∧ w' = w then b else bt (sM σ 5 u') w' := by
  unfold fX1_setWay
  cases b
  · rw [ite_f, gd_s hu (by decide), gd_s hu (by decide)]
    refine ⟨_, rfl, ?_⟩
    intro u' w'
    rcases Nat.lt_or_ge w' 32 with h | h
    · by_cases e : u' = u
      · rw [e, upd_s, b_not w hw _ h]
        by_cases e2 : w' = w
        · rw [if_pos ⟨rfl, e2⟩, decide_eq_true e2]
          simp
        · rw [if_neg (by omega), decide_eq_false e2]
          simp
      · rw [upd_n _ _ e, if_neg (by omega)]
    · rw [b_big h, b_big h, if_neg (by omega)]
  · rw [ite_t, gd_s hu (by decide), gd_s hu (by decide)]
    refine ⟨_, rfl, ?_⟩
    intro u' w'
    rcases Nat.lt_or_ge w' 32 with h | h
    · by_cases e : u' = u
      · rw [e, upd_s, b_or, b_one w hw h]
        by_cases e2 : w' = w
        · rw [if_pos ⟨rfl, e2⟩, decide_eq_true e2]
          simp
        · rw [if_neg (by omega), decide_eq_false e2]
          simp
      · rw [upd_n _ _ e, if_neg (by omega)]
    · rw [b_big h, b_big h, if_neg (by omega)]
theorem open97 (τ : St_) {f : Nat} (hf : f < 10) (b : Bool) : ∃ X, fX1_openByLimits_97 (nI (n1 b)) (nI (10 + f)) 21 τ = some (uA τ 5 X) ∧ ∀ u w, bt (X u) w = if u = 21 ∧ w = 10 + f then b else bt (sM τ 5 u) w := by
  obtain ⟨X, e, h⟩ := setWay_s τ (u := 21) (w := 10 + f) (by decide) (by omega) b
  refine ⟨X, ?_, h⟩
  unfold fX1_openByLimits_97
  rw [show (21 : Int32) = nI 21 from rfl, e]
  rfl
theorem open80 (τ : St_) {f c : Nat} (hf : f < 10) (hc : c ≤ 10) (b : Bool) : ∃ X, fX1_openByLimits_80 (nI (10 + f)) (nI c) (nI (n1 b)) 21 (nI (10 + f)) τ = some (uA τ 5 X) ∧ ∀ u w, bt (X u) w = if u = 21 ∧ w = 10 + f then decide (0 < c) else if u = 10 + f ∧ w = 21 then b else bt (sM τ 5 u) w := by
  obtain ⟨X, e, h⟩ := setWay_s τ (u := 10 + f) (w := 21) (by omega) (by decide) b
  unfold fX1_openByLimits_80
  rw [show fX1_setWay (nI (10 + f)) 21 (nI (n1 b)) τ = _ from e, bn_s]
  obtain ⟨Y, e2, h2⟩ := open97 (uA τ 5 X) hf (decide (0 < c))
  refine ⟨Y, ?_, ?_⟩
  · rw [uA_uA] at e2
    rw [← e2]
    by_cases q : c = 0
    · subst q
      exact if_pos (by decide)
    · rw [if_neg (show ¬ nI c ≤ 0 from nI_ge (a := 0) (by omega) (by omega)), decide_eq_true (by omega)]
      rfl
  · intro u w
    rw [h2, sM_A, h]
theorem open59 (τ : St_) {v f c N : Nat} (hv : v < 10) (hf : f < 10) (hc : c ≤ 10) (hN : N ≤ 5) (e3 : sS τ 3 = nI N) (b : Bool) : ∃ X, fX1_openByLimits_59 (nI (10 + f)) (nI c) (nI (n1 b)) 20 (nI v) τ = some (uA τ 5 X) ∧ ∀ u w, bt (X u) w = if u = 21 ∧ w = 10 + f then decide (0 < c) else if u = 10 + f ∧ w = 21 then decide (c < N) else if u = v ∧ w = 20 then b else bt (sM τ 5 u) w := by
  obtain ⟨X, e, h⟩ := setWay_s τ (u := v) (w := 20) (by omega) (by decide) b
  unfold fX1_openByLimits_59
  rw [show fX1_setWay (nI v) 20 (nI (n1 b)) τ = _ from e, bn_s, show sS (uA τ 5 X) 3 = nI N from e3]
  obtain ⟨Y, e2, h2⟩ := open80 (uA τ 5 X) hf hc (decide (c < N))
  refine ⟨Y, ?_, ?_⟩
  · rw [uA_uA] at e2
    rw [← e2]
    by_cases q : c < N
    · rw [if_neg (nI_ge q (by omega)), decide_eq_true q]
      rfl
    · rw [if_pos (nI_le (by omega) (by omega)), decide_eq_false q]
      rfl
  · intro u w
    rw [h2, sM_A, h]
theorem open38 (τ : St_) {v f c r N : Nat} (hv : v < 10) (hf : f < 10) (hc : c ≤ 10) (hr : r ≤ 10) (hN : N ≤ 5) (e3 : sS τ 3 = nI N) (e9 : sM τ 9 v = nI r) (b : Bool) : ∃ X, fX1_openByLimits_38 (nI v) (nI (10 + f)) (nI c) (nI (n1 b)) (nI v) 20 τ = some (uA τ 5 X) ∧ ∀ u w, bt (X u) w = if u = 21 ∧ w = 10 + f then decide (0 < c) else if u = 10 + f ∧ w = 21 then decide (c < N) else if u = v ∧ w = 20 then decide (0 < r) else if u = 20 ∧ w = v then b else bt (sM τ 5 u) w := by
  obtain ⟨X, e, h⟩ := setWay_s τ (u := 20) (w := v) (by decide) (by omega) b
  unfold fX1_openByLimits_38
  rw [show fX1_setWay 20 (nI v) (nI (n1 b)) τ = _ from e, bn_s, gd_s hv (by decide), show sM (uA τ 5 X) 9 v = nI r from e9]
  obtain ⟨Y, e2, h2⟩ := open59 (uA τ 5 X) hv hf hc hN e3 (decide (0 < r))
  refine ⟨Y, ?_, ?_⟩
  · rw [uA_uA] at e2
    rw [← e2]
    by_cases q : r = 0
    · subst q
      exact if_pos (by decide)
    · rw [if_neg (show ¬ nI r ≤ 0 from nI_ge (a := 0) (by omega) (by omega)), decide_eq_true (by omega)]
      rfl
  · intro u w
    rw [h2, sM_A, h]
theorem place_s (f : Nat) : fX1_placeVisited (nI f) = some (nI (10 + f)) := congrArg some (nI_add 10 f)
theorem open_s (τ : St_) {v f c r N V : Nat} (hv : v < 10) (hf : f < 10) (hc : c ≤ 10) (hr : r ≤ 10) (hN : N ≤ 5) (hV : V ≤ 9) (e3 : sS τ 3 = nI N) (e4 : sS τ 4 = nI V) (e8 : fJ6_bitCount_0f7a4 (sM τ 8 f) = some (nI c)) (e9 : sM τ 9 v = nI r) : ∃ X, fX1_openByLimits (nI v) (nI f) τ = some (uA τ 5 X) ∧ ∀ u w, bt (X u) w = if u = 21 ∧ w = 10 + f then decide (0 < c) else if u = 10 + f ∧ w = 21 then decide (c < N) else if u = v ∧ w = 20 then decide (0 < r) else if u = 20 ∧ w = v then decide (r < V) else bt (sM τ 5 u) w := by
  unfold fX1_openByLimits
  rw [place_s, bn_s, gd_s hf (by decide), e8, bn_s, gd_s hv (by decide), e4, e9]
  obtain ⟨Y, e2, h2⟩ := open38 τ hv hf hc hr hN e3 e9 (decide (r < V))
  refine ⟨Y, ?_, h2⟩
  rw [← e2]
  by_cases q : r < V
  · rw [if_neg (nI_ge q (by omega)), decide_eq_true q]
    rfl
  · rw [if_pos (nI_le (by omega) (by omega)), decide_eq_false q]
    rfl
/-- the last four ways of a change, over a state whose visits are already changed -/
theorem change_s {σ τ : St_} {M A : Mx} {T U : Nat → Bool} {N V v f : Nat} (h : Wv σ M A T U N V) (hv : v < 10) (hf : f < 10) (hA : A v f = true) (b : Bool) (t3 : sS τ 3 = sS σ 3) (t4 : sS τ 4 = sS σ 4) (t5 : sM τ 5 = sM σ 5) (t8 : ∀ c, c < 10 → ∀ i, bt (sM τ 8 c) i = (decide (i < 10) && up M v f b i c)) (t9 : ∀ a, a < 10 → sM τ 9 a = nI (row (up M v f b) a)) : ∃ σ', (bn_ (fX1_setWay (nI v) (nI (10 + f)) (nI (n1 (!b))) τ) fun r6 => (bn_ (fX1_placeVisited (nI f)) fun r7 => (bn_ (fX1_setWay r7 (nI v) (nI (n1 b)) r6) fun r8 => (bn_ (fX1_openByLimits (nI v) (nI f) r8) fun r9 => some r9)))) = some σ' ∧ Fr τ σ' ∧ sM σ' 6 = sM τ 6 ∧ Wv σ' (up M v f b) A T U N V := by
  obtain ⟨⟨w3, w4, wN, wV⟩, w8, w9, w5, wA⟩ := h
  obtain ⟨-, -, hT, hU⟩ := wA v f hA
  obtain ⟨X1, e1, g1⟩ := setWay_s τ (u := v) (w := 10 + f) (by omega) (by omega) (!b)
  obtain ⟨X2, e2, g2⟩ := setWay_s (uA τ 5 X1) (u := 10 + f) (w := v) (by omega) (by omega) b
  rw [uA_uA] at e2
  rw [e1, bn_s, place_s, bn_s, e2, bn_s]
  have ec : fJ6_bitCount_0f7a4 (sM (uA τ 5 X2) 8 f) = some (nI (col (up M v f b) f)) := by
    rw [show sM (uA τ 5 X2) 8 = sM τ 8 from rfl, bitCount_s (fun i hi => by rw [t8 f hf i, decide_eq_false (by omega), Bool.false_and])]
    congr 2
    refine cn_congr 10 (fun i hi => ?_)
    rw [t8 f hf i, decide_eq_true hi, Bool.true_and]
  obtain ⟨X3, e3, g3⟩ := open_s (uA τ 5 X2) hv hf (col_le (up M v f b) f) (row_le (up M v f b) v) wN wV (t3.trans w3) (t4.trans w4) ec (t9 v hv)
  rw [e3, bn_s, uA_uA]
  refine ⟨_, rfl, Fr_A τ (by decide) X3, rfl, ⟨t3.trans w3, t4.trans w4, wN, wV⟩, t8, t9, ?_, wA⟩
  intro u w hu
  show bt (X3 u) w = _
  rw [g3, sM_A, g2, sM_A, g1, t5, w5 u w hu]
  exact ways_up b hv hf hA hT hU u w hu
theorem add_s {σ : St_} {M A : Mx} {T U : Nat → Bool} {N V v f : Nat} (h : Wv σ M A T U N V) (hv : v < 10) (hf : f < 10) (hA : A v f = true) (hm : M v f = false) : ∃ σ', fX1_addVisit (nI v) (nI f) σ = some σ' ∧ Fr σ σ' ∧ sM σ' 6 = sM σ 6 ∧ Wv σ' (up M v f true) A T U N V := by
  unfold fX1_addVisit
  rw [gd_s hf (by decide), gd_s hf (by decide), gd_s hv (by decide), gd_s hv (by decide), place_s, bn_s]
  have w9 := h.2.2.1 v hv
  have er := row_up M (v := v) hf true
  rw [hm] at er
  obtain ⟨σ', a1, a2, a3, a4⟩ := change_s (τ := uM (uM σ 8 f ((sM σ 8 f) ||| (1 <<< (nI v &&& 31)))) 9 v ((sM (uM σ 8 f ((sM σ 8 f) ||| (1 <<< (nI v &&& 31)))) 9 v) + 1)) h hv hf hA true rfl rfl rfl (by
      intro c hc i
      show bt (upd (sM σ 8) f _ c) i = _
      by_cases e : c = f
      · rw [e, upd_s]
        rcases Nat.lt_or_ge i 32 with q | q
        · rw [b_or, b_one v (by omega) q, h.2.1 f hf i]
          by_cases e2 : i = v
          · rw [e2, up_s, decide_eq_true hv, decide_eq_true rfl]
            simp
          · rw [up_n M true (fun z => e2 z.1), decide_eq_false e2, Bool.or_false]
        · rw [b_big q, decide_eq_false (by omega)]
          rfl
      · rw [upd_n _ _ e, h.2.1 c hc i, up_n M true (fun z => e z.2)]) (by
      intro a ha
      show upd (sM σ 9) v (sM σ 9 v + 1) a = _
      by_cases e : a = v
      · rw [e, upd_s, w9, nI_1]
        congr 1
        have z0 : n1 false = 0 := rfl
        have z1 : n1 true = 1 := rfl
        omega
      · rw [upd_n _ _ e, row_up' M e]
        exact h.2.2.1 a ha)
  rw [place_s] at a1
  refine ⟨σ', a1, Fr_t ?_ a2, a3, a4⟩
  exact Fr_t (Fr_A σ (k := 8) (by decide) _) (Fr_A _ (k := 9) (by decide) _)
theorem drop_s {σ : St_} {M A : Mx} {T U : Nat → Bool} {N V v f : Nat} (h : Wv σ M A T U N V) (hv : v < 10) (hf : f < 10) (hA : A v f = true) (hm : M v f = true) : ∃ σ', fX1_dropVisit (nI v) (nI f) σ = some σ' ∧ Fr σ σ' ∧ sM σ' 6 = sM σ 6 ∧ Wv σ' (up M v f false) A T U N V := by
  unfold fX1_dropVisit
  rw [gd_s hf (by decide), gd_s hf (by decide), gd_s hv (by decide), gd_s hv (by decide), place_s, bn_s]
  have w9 := h.2.2.1 v hv
  have er := row_up M (v := v) hf false
  rw [hm] at er
  obtain ⟨σ', a1, a2, a3, a4⟩ := change_s (τ := uM (uM σ 8 f ((sM σ 8 f) &&& ((1 <<< (nI v &&& 31)) ^^^ (-1)))) 9 v ((sM (uM σ 8 f ((sM σ 8 f) &&& ((1 <<< (nI v &&& 31)) ^^^ (-1)))) 9 v) - 1)) h hv hf hA false rfl rfl rfl (by
      intro c hc i
      show bt (upd (sM σ 8) f _ c) i = _
      by_cases e : c = f
      · rw [e, upd_s]
        rcases Nat.lt_or_ge i 32 with q | q
        · rw [b_not v (by omega) _ q, h.2.1 f hf i]
          by_cases e2 : i = v
          · rw [e2, up_s, decide_eq_true hv, decide_eq_true rfl]
            simp
          · rw [up_n M false (fun z => e2 z.1), decide_eq_false e2]
            simp
        · rw [b_big q, decide_eq_false (by omega)]
          rfl
      · rw [upd_n _ _ e, h.2.1 c hc i, up_n M false (fun z => e z.2)]) (by
      intro a ha
      show upd (sM σ 9) v (sM σ 9 v - 1) a = _
      by_cases e : a = v
      · have z0 : n1 false = 0 := rfl
        have z1 : n1 true = 1 := rfl
        rw [e, upd_s, w9, show nI (row M v) - 1 = nI (row M v - 1) from pk_sub (b := 1) (by omega)]
        congr 1
        omega
      · rw [upd_n _ _ e, row_up' M e]
        exact h.2.2.1 a ha)
  rw [place_s] at a1
  refine ⟨σ', a1, Fr_t ?_ a2, a3, a4⟩
  exact Fr_t (Fr_A σ (k := 8) (by decide) _) (Fr_A _ (k := 9) (by decide) _)
