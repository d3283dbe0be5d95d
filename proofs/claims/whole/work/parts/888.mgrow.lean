/-! THE REFERENCE'S SEARCH -/
def gs (σ : St_) (T F Q : Nat → Int32) : St_ := uA (uA (uA σ 25 T) 26 F) 27 Q
theorem gs_25 (σ : St_) (T F Q : Nat → Int32) (j : Nat) (a : Int32) : uM (gs σ T F Q) 25 j a = gs σ (upd T j a) F Q := by
  show (σ.1, (fun t => if t = 25 then upd T j a else if t = 27 then Q else if t = 26 then F else if t = 25 then T else σ.2.1 t), σ.2.2) = (σ.1, (fun t => if t = 27 then Q else if t = 26 then F else if t = 25 then upd T j a else σ.2.1 t), σ.2.2)
  refine congrArg (fun z => (σ.1, z, σ.2.2)) (funext fun t => ?_)
  by_cases h5 : t = 25
  · simp [h5]
  · by_cases h6 : t = 26
    · simp [h6]
    · by_cases h7 : t = 27
      · simp [h7]
      · simp [h5, h6, h7]
theorem gs_26 (σ : St_) (T F Q : Nat → Int32) (j : Nat) (a : Int32) : uM (gs σ T F Q) 26 j a = gs σ T (upd F j a) Q := by
  show (σ.1, (fun t => if t = 26 then upd F j a else if t = 27 then Q else if t = 26 then F else if t = 25 then T else σ.2.1 t), σ.2.2) = (σ.1, (fun t => if t = 27 then Q else if t = 26 then upd F j a else if t = 25 then T else σ.2.1 t), σ.2.2)
  refine congrArg (fun z => (σ.1, z, σ.2.2)) (funext fun t => ?_)
  by_cases h5 : t = 25
  · simp [h5]
  · by_cases h6 : t = 26
    · simp [h6]
    · by_cases h7 : t = 27
      · simp [h7]
      · simp [h5, h6, h7]
theorem gs_27 (σ : St_) (T F Q : Nat → Int32) (j : Nat) (a : Int32) : uM (gs σ T F Q) 27 j a = gs σ T F (upd Q j a) := by
  show uA (uA (uA (uA σ 25 T) 26 F) 27 Q) 27 (upd (sM (uA (uA (uA σ 25 T) 26 F) 27 Q) 27) j a) = _
  rw [uA_uA, sM_A]
  rfl
theorem gs_self (σ : St_) : gs σ (sM σ 25) (sM σ 26) (sM σ 27) = σ := by
  unfold gs
  rw [uA_self, uA_self, uA_self]
def Gc (σ : St_) (O M : Mx) (n N V : Nat) : Prop :=
  (sS σ 2 = nI n ∧ n ≤ 10 ∧ sM σ 5 0 = nI N ∧ sM σ 5 1 = nI V ∧ N ≤ 5 ∧ V ≤ 9) ∧
  (∀ v f, v < 10 → f < 10 → sM σ 21 (10 * v + f) = nI (n1 (O v f))) ∧
  (∀ v f, v < 10 → f < 10 → sM σ 22 (10 * v + f) = nI (n1 (O v f && M v f))) ∧
  (∀ v, v < 10 → sM σ 23 v = nI (row M v)) ∧ (∀ f, f < 10 → sM σ 24 f = nI (col M f)) ∧
  (∀ v f, O v f = true → v < n ∧ f < n)
def Gq (O M : Mx) (n N V : Nat) (T F Q : Nat → Int32) (q : Nat → Nat) (c : Nat) : Prop :=
  (∀ a, a < c → q a < 20 ∧ Q a = nI (q a)) ∧
  (∀ a b, a < c → b < c → q a = q b → a = b) ∧
  (∀ a v, a < c → v < 10 → q a = v → (T v = nI 10 ∧ row M v < V ∧ v < n) ∨ (∃ f b, f < 10 ∧ b < a ∧ q b = 10 + f ∧ T v = nI f ∧ O v f = true ∧ M v f = true)) ∧
  (∀ a f, a < c → f < 10 → q a = 10 + f → N ≤ col M f ∧ ∃ v b, v < 10 ∧ b < a ∧ q b = v ∧ F f = nI v ∧ O v f = true ∧ M v f = false) ∧
  (∀ v, v < 10 → (∀ a, a < c → q a ≠ v) → T v = -1) ∧
  (∀ f, f < 10 → (∀ a, a < c → q a ≠ 10 + f) → F f = -1)
theorem nI_m1 {k : Nat} (h : k < 2 ^ 31) : ¬ nI k = -1 := fun z => nI_pos (n := k) h (by rw [z]; decide)
section
variable {O M : Mx} {n N V : Nat} {T F Q : Nat → Int32} {q : Nat → Nat} {c : Nat}
theorem Gq_T (h : Gq O M n N V T F Q q c) {v : Nat} (hv : v < 10) : (T v = -1 ∧ ∀ a, a < c → q a ≠ v) ∨ (¬ T v = -1 ∧ ∃ a, a < c ∧ q a = v) := by
  by_cases e : ∃ a, a < c ∧ q a = v
  · obtain ⟨a, ha, ea⟩ := e
    refine Or.inr ⟨?_, a, ha, ea⟩
    rcases h.2.2.1 a v ha hv ea with ⟨h1, -⟩ | ⟨f, b, hf, -, -, h1, -⟩
    · rw [h1]; exact nI_m1 (by decide)
    · rw [h1]; exact nI_m1 (by omega)
  · have e' : ∀ a, a < c → q a ≠ v := fun a ha z => e ⟨a, ha, z⟩
    exact Or.inl ⟨h.2.2.2.2.1 v hv e', e'⟩
theorem Gq_F (h : Gq O M n N V T F Q q c) {f : Nat} (hf : f < 10) : (F f = -1 ∧ ∀ a, a < c → q a ≠ 10 + f) ∨ (¬ F f = -1 ∧ ∃ a, a < c ∧ q a = 10 + f) := by
  by_cases e : ∃ a, a < c ∧ q a = 10 + f
  · obtain ⟨a, ha, ea⟩ := e
    refine Or.inr ⟨?_, a, ha, ea⟩
    obtain ⟨-, v, b, hv, -, -, h1, -⟩ := h.2.2.2.1 a f ha hf ea
    rw [h1]; exact nI_m1 (by omega)
  · have e' : ∀ a, a < c → q a ≠ 10 + f := fun a ha z => e ⟨a, ha, z⟩
    exact Or.inl ⟨h.2.2.2.2.2 f hf e', e'⟩
def ext (q : Nat → Nat) (c u : Nat) : Nat → Nat := fun a => if a = c then u else q a
theorem ext_c (q : Nat → Nat) (c u : Nat) : ext q c u c = u := if_pos rfl
theorem ext_n (q : Nat → Nat) {c u a : Nat} (h : a < c) : ext q c u a = q a := if_neg (by omega)
theorem ext_inj {u : Nat} (hi : ∀ a b, a < c → b < c → q a = q b → a = b) (hn : ∀ a, a < c → q a ≠ u) : ∀ a b, a < c + 1 → b < c + 1 → ext q c u a = ext q c u b → a = b := by
  intro a b ha hb
  by_cases e1 : a = c
  · by_cases e2 : b = c
    · intro _; omega
    · rw [e1, ext_c, ext_n q (by omega)]
      intro z
      exact absurd z.symm (hn b (by omega))
  · rw [ext_n q (by omega)]
    by_cases e2 : b = c
    · rw [e2, ext_c]
      intro z
      exact absurd z (hn a (by omega))
    · rw [ext_n q (by omega)]
      exact hi a b (by omega) (by omega)
theorem Gq_v (h : Gq O M n N V T F Q q c) {v : Nat} (hv : v < 10) (hn : ∀ a, a < c → q a ≠ v) {x : Int32} (hx : (x = nI 10 ∧ row M v < V ∧ v < n) ∨ (∃ f b, f < 10 ∧ b < c ∧ q b = 10 + f ∧ x = nI f ∧ O v f = true ∧ M v f = true)) : Gq O M n N V (upd T v x) F (upd Q c (nI v)) (ext q c v) (c + 1) := by
  obtain ⟨h1, h2, h3, h4, h5, h6⟩ := h
  refine ⟨?_, ext_inj h2 hn, ?_, ?_, ?_, ?_⟩
  · intro a ha
    by_cases e : a = c
    · rw [e, ext_c, upd_s]
      exact ⟨by omega, rfl⟩
    · rw [ext_n q (by omega), upd_n _ _ e]
      exact h1 a (by omega)
  · intro a w ha hw e0
    by_cases e : a = c
    · rw [e, ext_c] at e0
      subst e0
      rw [upd_s]
      rcases hx with hx | ⟨f, b, g1, g2, g3, g4⟩
      · exact Or.inl hx
      · exact Or.inr ⟨f, b, g1, by omega, by rw [ext_n q g2]; exact g3, g4⟩
    · rw [ext_n q (by omega)] at e0
      have ne : w ≠ v := fun z => hn a (by omega) (e0.trans z)
      rw [upd_n _ _ ne]
      rcases h3 a w (by omega) hw e0 with g | ⟨f, b, g1, g2, g3, g4⟩
      · exact Or.inl g
      · exact Or.inr ⟨f, b, g1, g2, by rw [ext_n q (by omega)]; exact g3, g4⟩
  · intro a f ha hf e0
    by_cases e : a = c
    · rw [e, ext_c] at e0
      omega
    · rw [ext_n q (by omega)] at e0
      obtain ⟨g0, w, b, g1, g2, g3, g4⟩ := h4 a f (by omega) hf e0
      exact ⟨g0, w, b, g1, g2, by rw [ext_n q (by omega)]; exact g3, g4⟩
  · intro w hw hn2
    have ne : w ≠ v := fun z => hn2 c (by omega) (by rw [ext_c, z])
    rw [upd_n _ _ ne]
    exact h5 w hw (fun a ha => by have := hn2 a (by omega); rw [ext_n q ha] at this; exact this)
  · intro f hf hn2
    exact h6 f hf (fun a ha => by have := hn2 a (by omega); rw [ext_n q ha] at this; exact this)
theorem Gq_f (h : Gq O M n N V T F Q q c) {f v b : Nat} (hf : f < 10) (hn : ∀ a, a < c → q a ≠ 10 + f) (hN : N ≤ col M f) (hv : v < 10) (hb : b < c) (eb : q b = v) (hO : O v f = true) (hM : M v f = false) : Gq O M n N V T (upd F f (nI v)) (upd Q c (nI (10 + f))) (ext q c (10 + f)) (c + 1) := by
  obtain ⟨h1, h2, h3, h4, h5, h6⟩ := h
  refine ⟨?_, ext_inj h2 hn, ?_, ?_, ?_, ?_⟩
  · intro a ha
    by_cases e : a = c
    · rw [e, ext_c, upd_s]
      exact ⟨by omega, rfl⟩
    · rw [ext_n q (by omega), upd_n _ _ e]
      exact h1 a (by omega)
  · intro a w ha hw e0
    by_cases e : a = c
    · rw [e, ext_c] at e0
      omega
    · rw [ext_n q (by omega)] at e0
      rcases h3 a w (by omega) hw e0 with g | ⟨f, b, g1, g2, g3, g4⟩
      · exact Or.inl g
      · exact Or.inr ⟨f, b, g1, g2, by rw [ext_n q (by omega)]; exact g3, g4⟩
  · intro a g ha hg e0
    by_cases e : a = c
    · rw [e, ext_c] at e0
      have : g = f := by omega
      subst this
      rw [upd_s]
      exact ⟨hN, v, b, hv, by omega, by rw [ext_n q hb]; exact eb, rfl, hO, hM⟩
    · rw [ext_n q (by omega)] at e0
      have ne : g ≠ f := fun z => hn a (by omega) (by rw [e0, z])
      rw [upd_n _ _ ne]
      obtain ⟨g0, w, b, g1, g2, g3, g4⟩ := h4 a g (by omega) hg e0
      exact ⟨g0, w, b, g1, g2, by rw [ext_n q (by omega)]; exact g3, g4⟩
  · intro w hw hn2
    exact h5 w hw (fun a ha => by have := hn2 a (by omega); rw [ext_n q ha] at this; exact this)
  · intro g hg hn2
    have ne : g ≠ f := fun z => hn2 c (by omega) (by rw [ext_c, z])
    rw [upd_n _ _ ne]
    exact h6 g hg (fun a ha => by have := hn2 a (by omega); rw [ext_n q ha] at this; exact this)
end
/-- a farm that can take one more was found -/
def Suc (σ : St_) (O M : Mx) (n N V : Nat) (res : Option (Int32 × St_)) : Prop := ∃ T F Q q c fe v b, Gq O M n N V T F Q q c ∧ fe < 10 ∧ (∀ a, a < c → q a ≠ 10 + fe) ∧ v < 10 ∧ b < c ∧ q b = v ∧ O v fe = true ∧ M v fe = false ∧ col M fe < N ∧ res = fX6_grows_182 (nI fe) (gs σ T (upd F fe (nI v)) Q)
theorem l105 {σ : St_} {O M : Mx} {n N V : Nat} (hC : Gc σ O M n N V) (k84 : Int32 → Int32 → St_ → Option (Int32 × St_)) (v i : Nat) (hv : v < 10) : ∀ d fu g T F Q q c, g + d = n → d < fu → Gq O M n N V T F Q q c → i < c → q i = v → (∀ f, f < g → O v f = true → M v f = false → ∃ a, a < c ∧ q a = 10 + f) → (∃ T' F' Q' q' c', Gq O M n N V T' F' Q' q' c' ∧ c ≤ c' ∧ (∀ a, a < c → q' a = q a) ∧ (∀ f, f < n → O v f = true → M v f = false → ∃ a, a < c' ∧ q' a = 10 + f) ∧ fX6_grows_105 k84 fu (nI c) (nI i) (nI v) (nI g) (gs σ T F Q) = k84 (nI c') (nI i + 1) (gs σ T' F' Q')) ∨ Suc σ O M n N V (fX6_grows_105 k84 fu (nI c) (nI i) (nI v) (nI g) (gs σ T F Q))
  | d, 0, _, _, _, _, _, _, _, h, _, _, _, _ => absurd h (Nat.not_lt_zero d)
  | 0, fu + 1, g, T, F, Q, q, c, hg, _, hq, hi, ei, hcl => by
    obtain ⟨⟨c2, cn, -⟩, -⟩ := hC
    refine Or.inl ⟨T, F, Q, q, c, hq, Nat.le_refl c, fun _ _ => rfl, fun f hf => hcl f (by omega), ?_⟩
    show (if sS (gs σ T F Q) 2 ≤ nI g then fX6_grows_210 k84 (nI c) (nI i) (gs σ T F Q) else _) = _
    rw [show sS (gs σ T F Q) 2 = nI n from c2, if_pos (nI_le (by omega) (by omega))]
    rfl
  | d + 1, fu + 1, g, T, F, Q, q, c, hg, hfu, hq, hi, ei, hcl => by
    have hC' := hC
    obtain ⟨⟨c2, cn, cN, cV, bN, bV⟩, c21, c22, c23, c24, cO⟩ := hC
    have hg10 : g < 10 := by omega
    have hix : 10 * v + g < 100 := by omega
    have eq : fX6_grows_105 k84 (fu + 1) (nI c) (nI i) (nI v) (nI g) (gs σ T F Q) = (if (sS (gs σ T F Q) 2) ≤ nI g then fX6_grows_210 (k84) (nI c) (nI i) (gs σ T F Q) else (gd_ (nI g) 10 fun j22 => (if (sM (gs σ T F Q) 26 j22) = (-1) then (gd_ ((10 * nI v) + nI g) 100 fun j23 => (if (sM (gs σ T F Q) 21 j23) = 0 then fX6_grows_204 (k84) (fX6_grows_105 k84 fu) (nI c) (nI i) (nI v) (nI g) (gs σ T F Q) else (gd_ ((10 * nI v) + nI g) 100 fun j24 => (if (sM (gs σ T F Q) 22 j24) = 0 then (gd_ (nI g) 10 fun j25 => (gd_ (nI g) 10 fun j26 => (gd_ (nI 0) 6 fun j27 => (if (sM (uM (gs σ T F Q) 26 j25 (nI v)) 5 j27) ≤ (sM (uM (gs σ T F Q) 26 j25 (nI v)) 24 j26) then (gd_ (nI c) 20 fun j28 => fX6_grows_204 (k84) (fX6_grows_105 k84 fu) (nI c + 1) (nI i) (nI v) (nI g) (uM (uM (gs σ T F Q) 26 j25 (nI v)) 27 j28 (10 + nI g))) else fX6_grows_182  (nI g) (uM (gs σ T F Q) 26 j25 (nI v)))))) else fX6_grows_204 (k84) (fX6_grows_105 k84 fu) (nI c) (nI i) (nI v) (nI g) (gs σ T F Q))))) else fX6_grows_204 (k84) (fX6_grows_105 k84 fu) (nI c) (nI i) (nI v) (nI g) (gs σ T F Q)))) := rfl
    unfold fX6_grows_204 at eq
    rw [show sS (gs σ T F Q) 2 = nI n from c2, if_neg (nI_ge (by omega) (by omega)), gd_s hg10 (by decide), ix_10, nI_1, show sM (gs σ T F Q) 26 = F from rfl] at eq
    have skip : (O v g = true → M v g = false → ∃ a, a < c ∧ q a = 10 + g) → fX6_grows_105 k84 (fu + 1) (nI c) (nI i) (nI v) (nI g) (gs σ T F Q) = fX6_grows_105 k84 fu (nI c) (nI i) (nI v) (nI (g + 1)) (gs σ T F Q) → (∃ T' F' Q' q' c', Gq O M n N V T' F' Q' q' c' ∧ c ≤ c' ∧ (∀ a, a < c → q' a = q a) ∧ (∀ f, f < n → O v f = true → M v f = false → ∃ a, a < c' ∧ q' a = 10 + f) ∧ fX6_grows_105 k84 (fu + 1) (nI c) (nI i) (nI v) (nI g) (gs σ T F Q) = k84 (nI c') (nI i + 1) (gs σ T' F' Q')) ∨ Suc σ O M n N V (fX6_grows_105 k84 (fu + 1) (nI c) (nI i) (nI v) (nI g) (gs σ T F Q)) := by
      intro h1 h2
      rw [h2]
      refine l105 hC' k84 v i hv d fu (g + 1) T F Q q c (by omega) (by omega) hq hi ei ?_
      intro f hf a1 a2
      by_cases e : f = g
      · rw [e] at a1 a2 ⊢
        exact h1 a1 a2
      · exact hcl f (by omega) a1 a2
    rcases Gq_F hq hg10 with ⟨hF, hn⟩ | ⟨hF, hd⟩
    · rw [if_pos hF, gd_s hix (by decide), show sM (gs σ T F Q) 21 (10 * v + g) = _ from c21 v g hv hg10, ite_n] at eq
      cases hO : O v g
      · rw [hO, if_neg (by decide)] at eq
        exact skip (fun z => by rw [hO] at z; cases z) eq
      · rw [hO, if_pos rfl, gd_s hix (by decide), show sM (gs σ T F Q) 22 (10 * v + g) = _ from c22 v g hv hg10, hO, Bool.true_and, ite_n] at eq
        cases hM : M v g
        · rw [hM, if_neg (by decide), gd_s hg10 (by decide), gd_s hg10 (by decide), gd_s (by decide) (by decide), gs_26, show sM (gs σ T (upd F g (nI v)) Q) 5 0 = nI N from cN, show sM (gs σ T (upd F g (nI v)) Q) 24 g = nI (col M g) from c24 g hg10] at eq
          by_cases hN : N ≤ col M g
          · have hq' := Gq_f hq hg10 hn hN hv hi ei hO hM
            have hc : c + 1 ≤ 20 := ph 20 (c + 1) _ (fun a ha => (hq'.1 a ha).1) hq'.2.1
            have hcb := col_le M g
            rw [if_pos (nI_le hN (by omega)), gd_s (by omega) (by decide), gs_27, show 10 + nI g = nI (10 + g) from nI_add 10 g, nI_1] at eq
            rw [eq]
            rcases l105 hC' k84 v i hv d fu (g + 1) _ _ _ _ _ (by omega) (by omega) hq' (by omega) (by rw [ext_n q hi]; exact ei) (by
                intro f hf a1 a2
                by_cases e : f = g
                · exact ⟨c, by omega, by rw [ext_c, e]⟩
                · obtain ⟨a, ha, ea⟩ := hcl f (by omega) a1 a2
                  exact ⟨a, by omega, by rw [ext_n q ha]; exact ea⟩) with ⟨T', F', Q', q', c', r1, r2, r3, r4, r5⟩ | r
            · refine Or.inl ⟨T', F', Q', q', c', r1, by omega, ?_, r4, r5⟩
              intro a ha
              rw [r3 a (by omega), ext_n q ha]
            · exact Or.inr r
          · rw [if_neg (nI_ge (by omega) (by omega))] at eq
            exact Or.inr ⟨T, F, Q, q, c, g, v, i, hq, hg10, hn, hv, hi, ei, hO, hM, by omega, eq⟩
        · rw [hM, if_pos rfl] at eq
          exact skip (fun _ z => by rw [hM] at z; cases z) eq
    · rw [if_neg hF] at eq
      exact skip (fun _ _ => hd) eq
theorem l222 {σ : St_} {O M : Mx} {n N V : Nat} (hC : Gc σ O M n N V) (k84 : Int32 → Int32 → St_ → Option (Int32 × St_)) (f i : Nat) (hf : f < 10) : ∀ d fu g T F Q q c, g + d = n → d < fu → Gq O M n N V T F Q q c → i < c → q i = 10 + f → (∀ v, v < g → O v f = true → M v f = true → ∃ a, a < c ∧ q a = v) → ∃ T' F' Q' q' c', Gq O M n N V T' F' Q' q' c' ∧ c ≤ c' ∧ (∀ a, a < c → q' a = q a) ∧ (∀ v, v < n → O v f = true → M v f = true → ∃ a, a < c' ∧ q' a = v) ∧ fX6_grows_222 k84 fu (nI c) (nI i) (nI f) (nI g) (gs σ T F Q) = k84 (nI c') (nI i + 1) (gs σ T' F' Q')
  | d, 0, _, _, _, _, _, _, _, h, _, _, _, _ => absurd h (Nat.not_lt_zero d)
  | 0, fu + 1, g, T, F, Q, q, c, hg, _, hq, hi, ei, hcl => by
    obtain ⟨⟨c2, cn, -⟩, -⟩ := hC
    refine ⟨T, F, Q, q, c, hq, Nat.le_refl c, fun _ _ => rfl, fun v hv => hcl v (by omega), ?_⟩
    show (if sS (gs σ T F Q) 2 ≤ nI g then fX6_grows_303 k84 (nI c) (nI i) (gs σ T F Q) else _) = _
    rw [show sS (gs σ T F Q) 2 = nI n from c2, if_pos (nI_le (by omega) (by omega))]
    rfl
  | d + 1, fu + 1, g, T, F, Q, q, c, hg, hfu, hq, hi, ei, hcl => by
    have hC' := hC
    obtain ⟨⟨c2, cn, cN, cV, bN, bV⟩, c21, c22, c23, c24, cO⟩ := hC
    have hg10 : g < 10 := by omega
    have hix : 10 * g + f < 100 := by omega
    have eq : fX6_grows_222 k84 (fu + 1) (nI c) (nI i) (nI f) (nI g) (gs σ T F Q) = (if (sS (gs σ T F Q) 2) ≤ nI g then fX6_grows_303 (k84) (nI c) (nI i) (gs σ T F Q) else (gd_ (nI g) 10 fun j13 => (if (sM (gs σ T F Q) 25 j13) = (-1) then (gd_ ((10 * nI g) + nI f) 100 fun j14 => (if (sM (gs σ T F Q) 21 j14) = 0 then fX6_grows_297 (k84) (fX6_grows_222 k84 fu) (nI c) (nI i) (nI f) (nI g) (gs σ T F Q) else (gd_ ((10 * nI g) + nI f) 100 fun j15 => (if (sM (gs σ T F Q) 22 j15) = 0 then fX6_grows_297 (k84) (fX6_grows_222 k84 fu) (nI c) (nI i) (nI f) (nI g) (gs σ T F Q) else (gd_ (nI g) 10 fun j16 => (gd_ (nI c) 20 fun j17 => fX6_grows_297 (k84) (fX6_grows_222 k84 fu) (nI c + 1) (nI i) (nI f) (nI g) (uM (uM (gs σ T F Q) 25 j16 (nI f)) 27 j17 (nI g)))))))) else fX6_grows_297 (k84) (fX6_grows_222 k84 fu) (nI c) (nI i) (nI f) (nI g) (gs σ T F Q)))) := rfl
    unfold fX6_grows_297 at eq
    rw [show sS (gs σ T F Q) 2 = nI n from c2, if_neg (nI_ge (by omega) (by omega)), gd_s hg10 (by decide), ix_10, nI_1, show sM (gs σ T F Q) 25 = T from rfl] at eq
    have skip : (O g f = true → M g f = true → ∃ a, a < c ∧ q a = g) → fX6_grows_222 k84 (fu + 1) (nI c) (nI i) (nI f) (nI g) (gs σ T F Q) = fX6_grows_222 k84 fu (nI c) (nI i) (nI f) (nI (g + 1)) (gs σ T F Q) → ∃ T' F' Q' q' c', Gq O M n N V T' F' Q' q' c' ∧ c ≤ c' ∧ (∀ a, a < c → q' a = q a) ∧ (∀ v, v < n → O v f = true → M v f = true → ∃ a, a < c' ∧ q' a = v) ∧ fX6_grows_222 k84 (fu + 1) (nI c) (nI i) (nI f) (nI g) (gs σ T F Q) = k84 (nI c') (nI i + 1) (gs σ T' F' Q') := by
      intro h1 h2
      rw [h2]
      refine l222 hC' k84 f i hf d fu (g + 1) T F Q q c (by omega) (by omega) hq hi ei ?_
      intro v hv a1 a2
      by_cases e : v = g
      · rw [e] at a1 a2 ⊢
        exact h1 a1 a2
      · exact hcl v (by omega) a1 a2
    rcases Gq_T hq hg10 with ⟨hT, hn⟩ | ⟨hT, hd⟩
    · rw [if_pos hT, gd_s hix (by decide), show sM (gs σ T F Q) 21 (10 * g + f) = _ from c21 g f hg10 hf, ite_n] at eq
      cases hO : O g f
      · rw [hO, if_neg (by decide)] at eq
        exact skip (fun z => by rw [hO] at z; cases z) eq
      · rw [hO, if_pos rfl, gd_s hix (by decide), show sM (gs σ T F Q) 22 (10 * g + f) = _ from c22 g f hg10 hf, hO, Bool.true_and, ite_n] at eq
        cases hM : M g f
        · rw [hM, if_neg (by decide)] at eq
          exact skip (fun _ z => by rw [hM] at z; cases z) eq
        · have hq' := Gq_v hq hg10 hn (x := nI f) (Or.inr ⟨f, i, hf, hi, ei, rfl, hO, hM⟩)
          have hc : c + 1 ≤ 20 := ph 20 (c + 1) _ (fun a ha => (hq'.1 a ha).1) hq'.2.1
          rw [hM, if_pos rfl, gd_s hg10 (by decide), gd_s (by omega) (by decide), gs_25, gs_27, nI_1] at eq
          rw [eq]
          obtain ⟨T', F', Q', q', c', r1, r2, r3, r4, r5⟩ := l222 hC' k84 f i hf d fu (g + 1) _ _ _ _ _ (by omega) (by omega) hq' (by omega) (by rw [ext_n q hi]; exact ei) (by
              intro v hv a1 a2
              by_cases e : v = g
              · exact ⟨c, by omega, by rw [ext_c, e]⟩
              · obtain ⟨a, ha, ea⟩ := hcl v (by omega) a1 a2
                exact ⟨a, by omega, by rw [ext_n q ha]; exact ea⟩)
          refine ⟨T', F', Q', q', c', r1, by omega, ?_, r4, r5⟩
          intro a ha
          rw [r3 a (by omega), ext_n q ha]
    · rw [if_neg hT] at eq
      exact skip (fun _ _ => hd) eq
