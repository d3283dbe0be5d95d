/-! WHO MAY VISIT WHOM, laid open by both -/
theorem Inv_Fr {x x' m : St_} (h : Inv_ x m) (f : Fr x x') : Inv_ x' m := by
  obtain ⟨f1, f2, f3⟩ := f
  have sSy : ∀ a, sS x' a = sS x a := fun a => congrFun f1 a
  have sNy : sN x' = sN x := congrArg (fun z : Nat × (Nat → Nat → Int32) => z.1) f2
  have sFy : ∀ i j, sF x' i j = sF x i j := fun i j => congrFun (congrFun (congrArg (fun z : Nat × (Nat → Nat → Int32) => z.2) f2) i) j
  have m0 := f3 0 (by decide)
  have m1 := f3 1 (by decide)
  have m3 := f3 3 (by decide)
  have m4 := f3 4 (by decide)
  have m10 := f3 10 (by decide)
  have m11 := f3 11 (by decide)
  have m12 : ∀ f, sM x' (12 + f) = sM x (12 + f) := fun f => f3 (12 + f) (by omega)
  unfold Inv_
  simp only [sSy, sNy, sFy, m0, m1, m3, m4, m10, m11, m12]
  exact h
def Fq (σ σ' : St_) : Prop := σ'.1 = σ.1 ∧ σ'.2.2 = σ.2.2 ∧ ∀ a, a < 20 ∨ 27 < a → sM σ' a = sM σ a
theorem Fq_r (σ : St_) : Fq σ σ := ⟨rfl, rfl, fun _ _ => rfl⟩
theorem Fq_t {a b c : St_} (h : Fq a b) (g : Fq b c) : Fq a c := ⟨g.1.trans h.1, g.2.1.trans h.2.1, fun k hk => (g.2.2 k hk).trans (h.2.2 k hk)⟩
theorem Fq_A (σ : St_) {k : Nat} (hk : 20 ≤ k ∧ k ≤ 27) (F : Nat → Int32) : Fq σ (uA σ k F) := ⟨rfl, rfl, fun a ha => sM_N σ F (by omega)⟩
theorem Fq_m {a b : St_} (h : Fm a b) : Fq a b := ⟨h.1, h.2.1, fun k hk => h.2.2 k (by omega)⟩
def M00 : Mx := fun _ _ => false
theorem row00 (v : Nat) : row M00 v = 0 := cn_none 10 (fun _ _ => rfl)
theorem col00 (f : Nat) : col M00 f = 0 := cn_none 10 (fun _ _ => rfl)
theorem fill5_s (σ : St_) : fJ7_fill_53178_q5 0 σ = some (uA σ 5 (fun j => if 0 ≤ j ∧ j < 22 then 0 else sM σ 5 j)) :=
  fill_gen (fun n x2 σ => fJ7_fill_53178_q5_5 n 0 x2 (nI 22) σ) 5 22 22 0 (by decide) (by decide) (fun _ _ _ => rfl) 22 FU_ 0 σ rfl (by decide)
theorem fill8_s (σ : St_) : fJ7_fill_53178_q8 0 σ = some (uA σ 8 (fun j => if 0 ≤ j ∧ j < 10 then 0 else sM σ 8 j)) :=
  fill_gen (fun n x2 σ => fJ7_fill_53178_q8_5 n 0 x2 (nI 10) σ) 8 10 10 0 (by decide) (by decide) (fun _ _ _ => rfl) 10 FU_ 0 σ rfl (by decide)
theorem fill9_s (σ : St_) : fJ7_fill_53178_q9 0 σ = some (uA σ 9 (fun j => if 0 ≤ j ∧ j < 10 then 0 else sM σ 9 j)) :=
  fill_gen (fun n x2 σ => fJ7_fill_53178_q9_5 n 0 x2 (nI 10) σ) 9 10 10 0 (by decide) (by decide) (fun _ _ _ => rfl) 10 FU_ 0 σ rfl (by decide)
theorem begin_s (σ : St_) {N V : Nat} (hN : N ≤ 5) (hV : V ≤ 9) : ∃ σ', fX1_begin (nI N) (nI V) σ = some σ' ∧ Fr (uS (uS σ 3 (nI N)) 4 (nI V)) σ' ∧ Wv σ' M00 M00 (fun _ => false) (fun _ => false) N V := by
  unfold fX1_begin
  rw [fill5_s, bn_s, fill8_s, bn_s, fill9_s, bn_s]
  refine ⟨_, rfl, Fr_t (Fr_t (Fr_A _ (k := 5) (by decide) _) (Fr_A _ (k := 8) (by decide) _)) (Fr_A _ (k := 9) (by decide) _), ⟨rfl, rfl, hN, hV⟩, ?_, ?_, ?_, ?_⟩
  · intro f hf i
    show bt (if 0 ≤ f ∧ f < 10 then 0 else _) i = _
    rw [if_pos (by omega), b_0]
    exact (Bool.and_false _).symm
  · intro v hv
    show (if 0 ≤ v ∧ v < 10 then (0 : Int32) else _) = _
    rw [if_pos (by omega), row00]
    rfl
  · intro u w hu
    show bt (if 0 ≤ u ∧ u < 22 then 0 else _) w = _
    rw [if_pos (by omega), b_0]
    rcases wy_cases u w hu with ⟨a, c, ha, hc, rfl, rfl⟩ | ⟨a, c, ha, hc, rfl, rfl⟩ | ⟨a, ha, rfl, rfl⟩ | ⟨a, ha, rfl, rfl⟩ | ⟨c, hc, rfl, rfl⟩ | ⟨c, hc, rfl, rfl⟩ | ⟨h0, -⟩
    · rw [wy_vf _ _ _ _ _ _ ha hc]; rfl
    · rw [wy_fv _ _ _ _ _ _ ha hc]; rfl
    · rw [wy_vS _ _ _ _ _ _ ha]; rfl
    · rw [wy_Sv _ _ _ _ _ _ ha]; rfl
    · rw [wy_fK _ _ _ _ _ _ hc]; rfl
    · rw [wy_Kf _ _ _ _ _ _ hc]; rfl
    · rw [h0]
  · intro v f q
    cases q
def ub (T : Nat → Bool) (v : Nat) : Nat → Bool := fun a => if a = v then true else T a
theorem allow_s {σ : St_} {A : Mx} {T U : Nat → Bool} {N V v f : Nat} (h : Wv σ M00 A T U N V) (hv : v < 10) (hf : f < 10) : ∃ σ', fX1_allow (nI v) (nI f) σ = some σ' ∧ Fr σ σ' ∧ Wv σ' M00 (up A v f true) (ub T v) (ub U f) N V := by
  obtain ⟨⟨w3, w4, wN, wV⟩, w8, w9, w5, wA⟩ := h
  obtain ⟨X1, e1, g1⟩ := setWay_s σ (u := v) (w := 10 + f) (by omega) (by omega) true
  have ec : fJ6_bitCount_0f7a4 (sM (uA σ 5 X1) 8 f) = some (nI 0) := by
    rw [show sM (uA σ 5 X1) 8 = sM σ 8 from rfl, bitCount_s (fun i hi => by rw [w8 f hf i, decide_eq_false (by omega), Bool.false_and])]
    congr 2
    refine cn_none 10 (fun i hi => ?_)
    rw [w8 f hf i]
    exact Bool.and_false _
  obtain ⟨X3, e3, g3⟩ := open_s (uA σ 5 X1) hv hf (c := 0) (r := 0) (by decide) (by decide) wN wV w3 w4 ec (by rw [show sM (uA σ 5 X1) 9 = sM σ 9 from rfl, w9 v hv, row00])
  unfold fX1_allow
  rw [place_s, bn_s, show fX1_setWay (nI v) (nI (10 + f)) 1 σ = _ from e1, bn_s, e3, bn_s, uA_uA]
  refine ⟨_, rfl, Fr_A σ (by decide) X3, ⟨w3, w4, wN, wV⟩, w8, w9, ?_, ?_⟩
  · intro u w hu
    show bt (X3 u) w = _
    rw [g3, sM_A, g1, w5 u w hu]
    rcases wy_cases u w hu with ⟨a, c, ha, hc, rfl, rfl⟩ | ⟨a, c, ha, hc, rfl, rfl⟩ | ⟨a, ha, rfl, rfl⟩ | ⟨a, ha, rfl, rfl⟩ | ⟨c, hc, rfl, rfl⟩ | ⟨c, hc, rfl, rfl⟩ | ⟨h0, n1, n2, n3, n4, n5, n6⟩
    · rw [if_neg (by omega), if_neg (by omega), if_neg (by omega), if_neg (by omega), wy_vf _ _ _ _ _ _ ha hc, wy_vf _ _ _ _ _ _ ha hc]
      by_cases e : u = v ∧ c = f
      · rw [if_pos (by omega), e.1, e.2, up_s]
        rfl
      · rw [if_neg (by omega), up_n A true e]
    · rw [if_neg (by omega), if_neg (by omega), if_neg (by omega), if_neg (by omega), if_neg (by omega), wy_fv _ _ _ _ _ _ ha hc, wy_fv _ _ _ _ _ _ ha hc]
      show (A w c && false) = (_ && false)
      rw [Bool.and_false, Bool.and_false]
    · rw [if_neg (by omega), if_neg (by omega), wy_vS _ _ _ _ _ _ ha, wy_vS _ _ _ _ _ _ ha, row00, if_neg (by omega : ¬ (u = 20 ∧ 20 = v)), if_neg (by omega : ¬ (u = v ∧ 20 = 10 + f))]
      have : decide (0 < 0) = false := rfl
      rw [this, Bool.and_false, Bool.and_false, ite_self]
    · rw [if_neg (by omega), if_neg (by omega), if_neg (by omega), wy_Sv _ _ _ _ _ _ ha, wy_Sv _ _ _ _ _ _ ha, row00]
      unfold ub
      by_cases e : w = v
      · rw [if_pos ⟨rfl, e⟩, if_pos e, Bool.true_and]
      · rw [if_neg (by omega), if_neg (by omega), if_neg e]
    · rw [if_neg (by omega), wy_fK _ _ _ _ _ _ hc, wy_fK _ _ _ _ _ _ hc, col00]
      unfold ub
      by_cases e : c = f
      · rw [if_pos (by omega), if_pos e, Bool.true_and]
      · rw [if_neg (by omega), if_neg (by omega), if_neg (by omega), if_neg (by omega), if_neg e]
    · rw [wy_Kf _ _ _ _ _ _ hc, wy_Kf _ _ _ _ _ _ hc, col00]
      have : decide (0 < 0) = false := rfl
      rw [this, Bool.and_false, Bool.and_false, if_neg (by omega : ¬ (21 = 10 + f ∧ 10 + c = 21)), if_neg (by omega : ¬ (21 = v ∧ 10 + c = 20)), if_neg (by omega : ¬ (21 = 20 ∧ 10 + c = v)), if_neg (by omega : ¬ (21 = v ∧ 10 + c = 10 + f)), ite_self]
    · rw [if_neg (by omega), if_neg (by omega), if_neg (by omega), if_neg (by omega), if_neg (by omega), h0, h0]
  · intro a c q
    unfold ub
    by_cases e : a = v ∧ c = f
    · rw [e.1, e.2, if_pos rfl, if_pos rfl]
      exact ⟨hv, hf, rfl, rfl⟩
    · rw [up_n A true e] at q
      obtain ⟨p1, p2, p3, p4⟩ := wA a c q
      refine ⟨p1, p2, ?_, ?_⟩
      · by_cases e1 : a = v
        · rw [if_pos e1]
        · rw [if_neg e1, p3]
      · by_cases e1 : c = f
        · rw [if_pos e1]
        · rw [if_neg e1, p4]
/-- who may visit whom -/
def Ea (m : St_) (n : Nat) : Mx := fun v f => decide (v < n ∧ f < n) && !bar m v f
/-- those before (f, v), by farms visited first -/
def Ek (m : St_) (n f v : Nat) : Mx := fun a c => Ea m n a c && decide (c < f ∨ (c = f ∧ a < v))
theorem Ek_step (m : St_) {n f v : Nat} (hv : v < n) (hf : f < n) : Ek m n f (v + 1) = if bar m v f = true then Ek m n f v else up (Ek m n f v) v f true := by
  by_cases hb : bar m v f = true
  · rw [if_pos hb]
    funext a c
    unfold Ek
    by_cases e : a = v ∧ c = f
    · have : Ea m n a c = false := by
        unfold Ea
        rw [e.1, e.2, hb]
        exact Bool.and_false _
      rw [this, Bool.false_and, Bool.false_and]
    · congr 1
      by_cases q : c < f ∨ (c = f ∧ a < v)
      · rw [decide_eq_true q, decide_eq_true (by omega)]
      · rw [decide_eq_false q, decide_eq_false (by omega)]
  · rw [if_neg hb]
    funext a c
    by_cases e : a = v ∧ c = f
    · rw [e.1, e.2, up_s]
      unfold Ek Ea
      rw [decide_eq_true ⟨hv, hf⟩, decide_eq_true (by omega)]
      cases h : bar m v f
      · rfl
      · exact absurd h hb
    · rw [up_n _ _ e]
      unfold Ek
      congr 1
      by_cases q : c < f ∨ (c = f ∧ a < v)
      · rw [decide_eq_true q, decide_eq_true (by omega)]
      · rw [decide_eq_false q, decide_eq_false (by omega)]
theorem Ek_row (m : St_) (n f : Nat) : Ek m n f n = Ek m n (f + 1) 0 := by
  funext a c
  unfold Ek
  cases h : Ea m n a c
  · rfl
  · have h2 : a < n ∧ c < n := by
      unfold Ea at h
      rw [Bool.and_eq_true] at h
      exact of_decide_eq_true h.1
    congr 1
    by_cases q : c < f ∨ (c = f ∧ a < n)
    · rw [decide_eq_true q, decide_eq_true (by omega)]
    · rw [decide_eq_false q, decide_eq_false (by omega)]
theorem x47 {x m : St_} {n N V f : Nat} (hI : Inv_ x m) (en : sN x = n) (hf : f < n) (k37 : Int32 → St_ → Option (Int32 × St_)) : ∀ d fu v σ T U, v + d = n → d < fu → Fr x σ → Wv σ M00 (Ek m n f v) T U N V → ∃ σ' T' U', fX5_lay_47 k37 fu (nI f) (nI v) σ = k37 (nI (f + 1)) σ' ∧ Fr x σ' ∧ Wv σ' M00 (Ek m n (f + 1) 0) T' U' N V
  | d, 0, _, _, _, _, _, h, _, _ => absurd h (Nat.not_lt_zero d)
  | 0, fu + 1, v, σ, T, U, hv, _, hFr, hW => by
    have hn : n ≤ 10 := by rw [← en]; exact hI.1.1
    have e5 : sS σ 5 = nI n := by rw [show sS σ 5 = sS x 5 from congrFun hFr.1 5, hI.1.2.1, en]
    have ev : v = n := by omega
    subst ev
    rw [Ek_row] at hW
    refine ⟨σ, T, U, ?_, hFr, hW⟩
    show (if sS σ 5 ≤ nI v then fX5_lay_79 k37 (nI f) σ else _) = _
    rw [e5, if_pos (nI_le (Nat.le_refl v) (by omega))]
    unfold fX5_lay_79
    rw [nI_1]
  | d + 1, fu + 1, v, σ, T, U, hv, hfu, hFr, hW => by
    have hn : n ≤ 10 := by rw [← en]; exact hI.1.1
    have e5 : sS σ 5 = nI n := by rw [show sS σ 5 = sS x 5 from congrFun hFr.1 5, hI.1.2.1, en]
    have hI' := Inv_Fr hI hFr
    have en' : sN σ = n := by rw [← en]; exact congrArg (fun z : Nat × (Nat → Nat → Int32) => z.1) hFr.2.1
    have eq : fX5_lay_47 k37 (fu + 1) (nI f) (nI v) σ = (if (sS σ 5) ≤ nI v then fX5_lay_79 (k37) (nI f) σ else (bn_ (fX5_isBarred (nI v) (nI f) σ) fun r9 => (if r9 = 0 then (bn_ (fX1_allow (nI v) (nI f) σ) fun r10 => fX5_lay_47 k37 fu (nI f) (nI v + 1) r10) else fX5_lay_47 k37 fu (nI f) (nI v + 1) σ))) := rfl
    rw [e5, if_neg (nI_ge (by omega) (by omega)), bar_X hI' (by omega) (by omega), bn_s, ite_n, nI_1] at eq
    have es := Ek_step m (n := n) (f := f) (v := v) (by omega) hf
    by_cases hb : bar m v f = true
    · rw [if_pos hb] at eq es
      rw [eq]
      exact x47 hI en hf k37 d fu (v + 1) σ T U (by omega) (by omega) hFr (by rw [es]; exact hW)
    · rw [if_neg hb] at eq es
      obtain ⟨σ2, a1, a2, a3⟩ := allow_s hW (v := v) (f := f) (by omega) (by omega)
      rw [a1, bn_s] at eq
      rw [eq]
      exact x47 hI en hf k37 d fu (v + 1) σ2 _ _ (by omega) (by omega) (Fr_t hFr a2) (by rw [es]; exact a3)
theorem x37 {x m : St_} {n N V : Nat} (hI : Inv_ x m) (en : sN x = n) : ∀ d fu f σ T U, f + d = n → d < fu → Fr x σ → Wv σ M00 (Ek m n f 0) T U N V → ∃ σ' T' U', fX5_lay_37 fu (nI f) σ = fX5_lay_85 σ' ∧ Fr x σ' ∧ Wv σ' M00 (Ek m n n 0) T' U' N V
  | d, 0, _, _, _, _, _, h, _, _ => absurd h (Nat.not_lt_zero d)
  | 0, fu + 1, f, σ, T, U, hf, _, hFr, hW => by
    have hn : n ≤ 10 := by rw [← en]; exact hI.1.1
    have e5 : sS σ 5 = nI n := by rw [show sS σ 5 = sS x 5 from congrFun hFr.1 5, hI.1.2.1, en]
    have ev : f = n := by omega
    subst ev
    refine ⟨σ, T, U, ?_, hFr, hW⟩
    show (if sS σ 5 ≤ nI f then fX5_lay_85 σ else _) = _
    rw [e5, if_pos (nI_le (Nat.le_refl f) (by omega))]
  | d + 1, fu + 1, f, σ, T, U, hf, hfu, hFr, hW => by
    have hn : n ≤ 10 := by rw [← en]; exact hI.1.1
    have e5 : sS σ 5 = nI n := by rw [show sS σ 5 = sS x 5 from congrFun hFr.1 5, hI.1.2.1, en]
    obtain ⟨σ2, T2, U2, a1, a2, a3⟩ := x47 hI en (f := f) (by omega) (fX5_lay_37 fu) n FU_ 0 σ T U (by omega) (by show n < 300; omega) hFr hW
    obtain ⟨σ3, T3, U3, b1, b2, b3⟩ := x37 hI en d fu (f + 1) σ2 T2 U2 (by omega) (by omega) a2 a3
    refine ⟨σ3, T3, U3, ?_, b2, b3⟩
    show (if sS σ 5 ≤ nI f then fX5_lay_85 σ else fX5_lay_47 (fX5_lay_37 fu) FU_ (nI f) (nI 0) σ) = _
    rw [e5, if_neg (nI_ge (by omega) (by omega)), a1, b1]
theorem m11 {m : St_} {n : Nat} (hn : n ≤ 10) (e2 : sS m 2 = nI n) : ∀ d fu k σ, k + d = 100 → d < fu → Fq m σ → (∀ a c, a < 10 → c < 10 → 10 * a + c < k → sM σ 20 (10 * a + c) = 0 ∧ sM σ 21 (10 * a + c) = nI (n1 (Ea m n a c))) → ∃ σ', fX6_lay_11 fu (nI k) σ = fX6_lay_78 σ' ∧ Fq m σ' ∧ ∀ a c, a < 10 → c < 10 → sM σ' 20 (10 * a + c) = 0 ∧ sM σ' 21 (10 * a + c) = nI (n1 (Ea m n a c))
  | d, 0, _, _, _, h, _, _ => absurd h (Nat.not_lt_zero d)
  | 0, fu + 1, k, σ, hk, _, hFq, hj => by
    refine ⟨σ, ?_, hFq, fun a c ha hc => hj a c ha hc (by omega)⟩
    show (if 100 ≤ nI k then fX6_lay_78 σ else _) = _
    rw [if_pos (le_100 (by omega) (by omega))]
  | d + 1, fu + 1, k, σ, hk, hfu, hFq, hj => by
    obtain ⟨a, b, ha, hb, ek⟩ : ∃ a b, a < 10 ∧ b < 10 ∧ k = 10 * a + b := ⟨k / 10, k % 10, by omega, by omega, by omega⟩
    have e2' : sS (uM σ 20 k 0) 2 = nI n := (congrFun hFq.1 2).trans e2
    have eb : bar (uM σ 20 k 0) a b = bar m a b := by
      unfold bar
      rw [show sM (uM σ 20 k 0) 7 = sM m 7 from hFq.2.2 7 (by decide), show sM (uM σ 20 k 0) 16 = sM m 16 from hFq.2.2 16 (by decide), show sM (uM σ 20 k 0) 18 = sM m 18 from hFq.2.2 18 (by decide)]
    have eq : fX6_lay_11 (fu + 1) (nI k) σ = (if 100 ≤ nI k then fX6_lay_78  σ else (gd_ (nI k) 100 fun j2 => (if (sS (uM σ 20 j2 (vp_nar .boolean 0)) 2) ≤ (nI k / nI 10) then fX6_lay_71 (fX6_lay_11 fu) (nI k) 0 (nI k) (uM σ 20 j2 (vp_nar .boolean 0)) else (if (sS (uM σ 20 j2 (vp_nar .boolean 0)) 2) ≤ (nI k - nI k / nI 10 * nI 10) then fX6_lay_71 (fX6_lay_11 fu) (nI k) 0 (nI k) (uM σ 20 j2 (vp_nar .boolean 0)) else (bn_ (fX6_isBarred (nI k / nI 10) (nI k - nI k / nI 10 * nI 10) (uM σ 20 j2 (vp_nar .boolean 0))) fun r3 => (if r3 = 0 then fX6_lay_71 (fX6_lay_11 fu) (nI k) 1 (nI k) (uM σ 20 j2 (vp_nar .boolean 0)) else fX6_lay_71 (fX6_lay_11 fu) (nI k) 0 (nI k) (uM σ 20 j2 (vp_nar .boolean 0)))))))) := rfl
    rw [if_neg (nle_100 (by omega)), gd_s (by omega) (by decide), nar0, pk_rem (by omega) (by decide) (by decide), pk_div (by omega) (by decide) (by decide), show k / 10 = a by omega, show k % 10 = b by omega, e2', bar_M _ ha hb, eb, bn_s, ite_n] at eq
    have key : fX6_lay_11 (fu + 1) (nI k) σ = fX6_lay_71 (fX6_lay_11 fu) (nI k) (nI (n1 (Ea m n a b))) (nI k) (uM σ 20 k 0) := by
      rw [eq]
      unfold Ea
      by_cases q1 : n ≤ a
      · rw [if_pos (nI_le q1 (by omega)), decide_eq_false (by omega)]
        rfl
      · rw [if_neg (nI_ge (by omega) (by omega))]
        by_cases q2 : n ≤ b
        · rw [if_pos (nI_le q2 (by omega)), decide_eq_false (by omega)]
          rfl
        · rw [if_neg (nI_ge (by omega) (by omega)), decide_eq_true (by omega), Bool.true_and]
          cases bar m a b
          · rw [if_neg (by decide)]
            rfl
          · rw [if_pos rfl]
            rfl
    unfold fX6_lay_71 at key
    rw [gd_s (by omega) (by decide), nI_1, nar_b (by cases Ea m n a b; exact Or.inl rfl; exact Or.inr rfl)] at key
    obtain ⟨σ', r1, r2, r3⟩ := m11 hn e2 d fu (k + 1) (uM (uM σ 20 k 0) 21 k (nI (n1 (Ea m n a b)))) (by omega) (by omega) (Fq_t hFq (Fq_t (Fq_A σ (k := 20) (by decide) _) (Fq_A _ (k := 21) (by decide) _))) (by
        intro a' c' ha' hc' hl
        show upd (sM σ 20) k 0 (10 * a' + c') = 0 ∧ upd (sM σ 21) k (nI (n1 (Ea m n a b))) (10 * a' + c') = _
        by_cases e : 10 * a' + c' = k
        · have h1 : a' = a := by omega
          have h2 : c' = b := by omega
          rw [e, upd_s, upd_s, h1, h2]
          exact ⟨rfl, rfl⟩
        · rw [upd_n _ _ e, upd_n _ _ e]
          exact hj a' c' ha' hc' (by omega))
    exact ⟨σ', key.trans r1, r2, r3⟩
