/-! THE CLASS'S SEARCH -/
def bs (σ : St_) (C Q : Nat → Int32) : St_ := uA (uA σ 6 C) 7 Q
theorem bs_put (σ : St_) (C Q : Nat → Int32) (j k : Nat) (a b : Int32) : uM (uM (bs σ C Q) 6 j a) 7 k b = bs σ (upd C j a) (upd Q k b) := by
  show (σ.1, (fun t => if t = 7 then upd Q k b else if t = 6 then upd C j a else if t = 7 then Q else if t = 6 then C else σ.2.1 t), σ.2.2) = (σ.1, (fun t => if t = 7 then upd Q k b else if t = 6 then upd C j a else σ.2.1 t), σ.2.2)
  refine congrArg (fun z => (σ.1, z, σ.2.2)) (funext fun t => ?_)
  by_cases h7 : t = 7
  · simp [h7]
  · by_cases h6 : t = 6
    · simp [h6]
    · simp [h6, h7]
def Tq (Wy : Nat → Nat → Bool) (s0 : Nat) (C Q : Nat → Int32) (q : Nat → Nat) (c : Nat) : Prop :=
  1 ≤ c ∧ q 0 = s0 ∧ (∀ a, a < c → q a < 22 ∧ Q a = nI (q a)) ∧ (∀ a b, a < c → b < c → q a = q b → a = b) ∧ ∀ a, 0 < a → a < c → ∃ b, b < a ∧ C (q a) = nI (q b) ∧ Wy (q b) (q a) = true
theorem Tq_ext {Wy : Nat → Nat → Bool} {s0 : Nat} {C Q : Nat → Int32} {q : Nat → Nat} {c i w : Nat} (h : Tq Wy s0 C Q q c) (hi : i < c) (hw : w < 22) (hn : ∀ a, a < c → q a ≠ w) (hy : Wy (q i) w = true) : Tq Wy s0 (upd C w (nI (q i))) (upd Q c (nI w)) (fun a => if a = c then w else q a) (c + 1) := by
  obtain ⟨h1, h2, h3, h4, h5⟩ := h
  refine ⟨by omega, ?_, ?_, ?_, ?_⟩
  · show (if 0 = c then w else q 0) = s0
    rw [if_neg (by omega)]; exact h2
  · intro a ha
    show (if a = c then w else q a) < 22 ∧ upd Q c (nI w) a = nI (if a = c then w else q a)
    by_cases e : a = c
    · rw [if_pos e, e, upd_s]
      exact ⟨hw, rfl⟩
    · rw [if_neg e, upd_n _ _ e]
      exact h3 a (by omega)
  · intro a b ha hb
    show (if a = c then w else q a) = (if b = c then w else q b) → a = b
    by_cases e1 : a = c
    · rw [if_pos e1]
      by_cases e2 : b = c
      · intro _; omega
      · rw [if_neg e2]
        intro z
        exact absurd z.symm (hn b (by omega))
    · rw [if_neg e1]
      by_cases e2 : b = c
      · rw [if_pos e2]
        intro z
        exact absurd z (hn a (by omega))
      · rw [if_neg e2]
        exact h4 a b (by omega) (by omega)
  · intro a ha0 ha
    show ∃ b, b < a ∧ upd C w (nI (q i)) (if a = c then w else q a) = nI (if b = c then w else q b) ∧ Wy (if b = c then w else q b) (if a = c then w else q a) = true
    by_cases e : a = c
    · refine ⟨i, by omega, ?_, ?_⟩
      · rw [if_pos e, upd_s, if_neg (by omega)]
      · rw [if_pos e, if_neg (by omega)]
        exact hy
    · obtain ⟨b, hb, hc, hd⟩ := h5 a ha0 (by omega)
      refine ⟨b, hb, ?_, ?_⟩
      · rw [if_neg e, if_neg (by omega), upd_n _ _ (hn a (by omega))]
        exact hc
      · rw [if_neg e, if_neg (by omega)]
        exact hd
theorem inner {Wy : Nat → Nat → Bool} {s0 : Nat} (σ : St_) (k17 : Int32 → Int32 → Int32 → Int32 → St_ → Option (Int32 × St_)) (x2 x3 x5 : Int32) (u0 i : Nat) : ∀ f left C Q q c, Tq Wy s0 C Q q c → i < c → q i = u0 → (∀ u, bt left u = true → u < 22 ∧ Wy u0 u = true ∧ ∀ a, a < c → q a ≠ u) → cn (fun u => bt left u) 22 < f → ∃ C' Q' q' c', Tq Wy s0 C' Q' q' c' ∧ c ≤ c' ∧ (∀ a, a < c → q' a = q a) ∧ (∀ u, (∃ a, a < c' ∧ q' a = u) ↔ ((∃ a, a < c ∧ q a = u) ∨ bt left u = true)) ∧ fX1_findPath_62 k17 f x2 x3 (nI c) x5 (nI u0) left (bs σ C Q) = fX1_findPath_114 k17 x2 x3 (nI c') x5 (bs σ C' Q')
  | 0, _, _, _, _, _, _, _, _, _, h => absurd h (Nat.not_lt_zero _)
  | f + 1, left, C, Q, q, c, hT, hi, hu, hl, hf => by
    by_cases z : left = 0
    · refine ⟨C, Q, q, c, hT, Nat.le_refl c, fun _ _ => rfl, ?_, ?_⟩
      · intro u
        rw [z, b_0]
        simp
      · show (if left = 0 then fX1_findPath_114 k17 x2 x3 (nI c) x5 (bs σ C Q) else _) = _
        rw [if_pos z]
    · obtain ⟨w, hw, w1, w2, w3⟩ := lowest_s z (fun i hi => by
        cases e : bt left i
        · rfl
        · exact absurd (hl i e).1 (by omega))
      obtain ⟨-, l2, l3⟩ := hl w w1
      have hT' := Tq_ext hT hi hw l3 (by rw [hu]; exact l2)
      have hc : c + 1 ≤ 22 := ph 22 (c + 1) _ (fun a ha => (hT'.2.2.1 a ha).1) hT'.2.2.2.1
      obtain ⟨C', Q', q', c', g1, g2, g3, g4, g5⟩ := inner σ k17 x2 x3 x5 u0 i f (left &&& (left - 1)) (upd C w (nI (q i))) (upd Q c (nI w)) (fun a => if a = c then w else q a) (c + 1) hT' (by omega) (by rw [if_neg (by omega)]; exact hu) (by
          intro u hu2
          have hu32 : u < 32 := by
            rcases Nat.lt_or_ge u 32 with q | q
            · exact q
            · rw [b_big q] at hu2; cases hu2
          rw [w3 u hu32] at hu2
          cases e : bt left u
          · rw [e] at hu2; cases hu2
          · rw [e] at hu2
            have ne : u ≠ w := fun z => by rw [decide_eq_true z] at hu2; cases hu2
            refine ⟨(hl u e).1, (hl u e).2.1, ?_⟩
            intro a ha
            by_cases ea : a = c
            · rw [if_pos ea]; exact fun z => ne z.symm
            · rw [if_neg ea]; exact (hl u e).2.2 a (by omega)) (by
          have : cn (fun u => bt (left &&& (left - 1)) u) 22 < cn (fun u => bt left u) 22 := cn_lt 22 (fun u hu3 hb => by
              rw [w3 u (by omega)] at hb
              cases e : bt left u
              · rw [e] at hb; cases hb
              · rfl) ⟨w, hw, by rw [w3 w (by omega), decide_eq_true rfl]; simp, w1⟩
          omega)
      refine ⟨C', Q', q', c', g1, by omega, ?_, ?_, ?_⟩
      · intro a ha
        rw [g3 a (by omega), if_neg (by omega)]
      · intro u
        rw [g4 u]
        constructor
        · rintro (⟨a, ha, e⟩ | e)
          · by_cases ea : a = c
            · rw [if_pos ea] at e
              rw [← e]
              exact Or.inr w1
            · rw [if_neg ea] at e
              exact Or.inl ⟨a, by omega, e⟩
          · have hu32 : u < 32 := by
              rcases Nat.lt_or_ge u 32 with q | q
              · exact q
              · rw [b_big q] at e; cases e
            rw [w3 u hu32] at e
            cases e2 : bt left u
            · rw [e2] at e; cases e
            · exact Or.inr rfl
        · rintro (⟨a, ha, e⟩ | e)
          · exact Or.inl ⟨a, by omega, by rw [if_neg (by omega)]; exact e⟩
          · by_cases ew : u = w
            · exact Or.inl ⟨c, by omega, by rw [if_pos rfl, ew]⟩
            · refine Or.inr ?_
              have hu22 := (hl u e).1
              rw [w3 u (by omega), e, decide_eq_false ew]
              rfl
      · show (if left = 0 then fX1_findPath_114 k17 x2 x3 (nI c) x5 (bs σ C Q) else (if 22 ≤ nI c then fX1_findPath_114 k17 x2 x3 (nI c) x5 (bs σ C Q) else (bn_ (fX1_lowestBit left) fun r6 => (gd_ r6 22 fun j7 => (gd_ (nI c) 22 fun j8 => fX1_findPath_62 k17 f x2 x3 (nI c + 1) x5 (nI u0) (left &&& (left - 1)) (uM (uM (bs σ C Q) 6 j7 (nI u0)) 7 j8 r6)))))) = _
        rw [if_neg z, if_neg (nle_22 (by omega)), w2, bn_s, gd_s hw (by decide), gd_s (by omega) (by decide), nI_1, bs_put, ← hu, hu]
        rw [hu] at g5
        exact g5
theorem outer {Wy : Nat → Nat → Bool} {s0 to : Nat} (σ : St_) (hWy : ∀ u w, u < 22 → bt (sM σ 5 u) w = Wy u w) (hW : ∀ u w, u < 22 → 22 ≤ w → Wy u w = false) (ht : to < 22) : ∀ f i C Q q c seen, Tq Wy s0 C Q q c → i ≤ c → 22 - i < f → (∀ u, bt seen u = true ↔ ∃ a, a < c ∧ q a = u) → bt seen to = false → (∀ a, a < i → ∀ w, Wy (q a) w = true → bt seen w = true) → ∃ r C' Q', fX1_findPath_17 f (nI to) seen (nI c) (nI i) (bs σ C Q) = some (nI (n1 r), bs σ C' Q') ∧ (r = true → ∃ q' c', Tq Wy s0 C' Q' q' c' ∧ ∃ a, a < c' ∧ q' a = to) ∧ (r = false → ∃ R : Nat → Bool, R s0 = true ∧ R to = false ∧ ∀ u w, R u = true → Wy u w = true → R w = true)
  | 0, _, _, _, _, _, _, _, _, h, _, _, _ => absurd h (Nat.not_lt_zero _)
  | f + 1, i, C, Q, q, c, seen, hT, hi, hf, hs, hto, hcl => by
    have hc : c ≤ 22 := ph 22 c _ (fun a ha => (hT.2.2.1 a ha).1) hT.2.2.2.1
    by_cases e : c ≤ i
    · refine ⟨false, C, Q, ?_, fun z => (by cases z), fun _ => ⟨fun u => bt seen u, ?_, hto, ?_⟩⟩
      · show (if nI c ≤ nI i then some (0, bs σ C Q) else _) = _
        rw [if_pos (nI_le e (by omega))]
        rfl
      · exact (hs s0).mpr ⟨0, hT.1, hT.2.1⟩
      · intro u w hu hw
        obtain ⟨a, ha, ea⟩ := (hs u).mp hu
        exact hcl a (by omega) w (by rw [ea]; exact hw)
    · have hi' : i < c := by omega
      obtain ⟨q22, qQ⟩ := hT.2.2.1 i hi'
      have hb : ∀ u, bt (sM (bs σ C Q) 5 (q i) &&& (seen ^^^ (-1))) u = (Wy (q i) u && !bt seen u) := by
        intro u
        rcases Nat.lt_or_ge u 32 with h | h
        · rw [b_and, b_xor, b_m1 u h, Bool.xor_true, show sM (bs σ C Q) 5 = sM σ 5 from rfl, hWy _ _ q22]
        · rw [b_big h, hW _ _ q22 (by omega)]
          rfl
      obtain ⟨C', Q', q', c', g1, g2, g3, g4, g5⟩ := inner (Wy := Wy) (s0 := s0) σ (fX1_findPath_17 f) (nI to) (seen ||| (sM (bs σ C Q) 5 (q i) &&& (seen ^^^ (-1)))) (nI i) (q i) i FU_ (sM (bs σ C Q) 5 (q i) &&& (seen ^^^ (-1))) C Q q c hT hi' rfl (by
          intro u hu
          rw [hb] at hu
          have w1 : Wy (q i) u = true := by
            cases z : Wy (q i) u
            · rw [z] at hu; cases hu
            · rfl
          have w2 : bt seen u = false := by
            cases z : bt seen u
            · rfl
            · rw [z, w1] at hu; cases hu
          refine ⟨?_, w1, ?_⟩
          · rcases Nat.lt_or_ge u 22 with z | z
            · exact z
            · rw [hW _ _ q22 z] at w1; cases w1
          · intro a ha z
            have := (hs u).mpr ⟨a, ha, z⟩
            rw [w2] at this
            cases this) (by
          have := cn_le (fun u => bt (sM (bs σ C Q) 5 (q i) &&& (seen ^^^ (-1))) u) 22
          show _ < 300
          omega)
      have hs' : ∀ u, bt (seen ||| (sM (bs σ C Q) 5 (q i) &&& (seen ^^^ (-1)))) u = true ↔ ∃ a, a < c' ∧ q' a = u := by
        intro u
        rw [g4 u, b_or]
        constructor
        · intro z
          cases e1 : bt seen u
          · rw [e1] at z
            exact Or.inr z
          · exact Or.inl ((hs u).mp e1)
        · rintro (z | z)
          · rw [(hs u).mpr z]
            rfl
          · rw [z]
            exact Bool.or_true _
      have step : fX1_findPath_17 (f + 1) (nI to) seen (nI c) (nI i) (bs σ C Q) = fX1_findPath_114 (fX1_findPath_17 f) (nI to) (seen ||| (sM (bs σ C Q) 5 (q i) &&& (seen ^^^ (-1)))) (nI c') (nI i) (bs σ C' Q') := by
        rw [← g5]
        show (if nI c ≤ nI i then some (0, bs σ C Q) else (if 22 ≤ nI i then some (0, bs σ C Q) else (gd_ (nI i) 22 fun j2 => (gd_ (sM (bs σ C Q) 7 j2) 22 fun j3 => fX1_findPath_62 (fX1_findPath_17  f) FU_ (nI to) (seen ||| ((sM (bs σ C Q) 5 j3) &&& (seen ^^^ (-1)))) (nI c) (nI i) (sM (bs σ C Q) 7 j2) ((sM (bs σ C Q) 5 j3) &&& (seen ^^^ (-1))) (bs σ C Q))))) = _
        rw [if_neg (nI_ge hi' (by omega)), if_neg (nle_22 (by omega)), gd_s (by omega) (by decide), show sM (bs σ C Q) 7 i = nI (q i) from qQ, gd_s q22 (by decide)]
      have st2 : fX1_findPath_114 (fX1_findPath_17 f) (nI to) (seen ||| (sM (bs σ C Q) 5 (q i) &&& (seen ^^^ (-1)))) (nI c') (nI i) (bs σ C' Q') = (bn_ (fX5_hasBit (seen ||| (sM (bs σ C Q) 5 (q i) &&& (seen ^^^ (-1)))) (nI to)) fun r11 => (if r11 = 0 then fX1_findPath_17 f (nI to) (seen ||| (sM (bs σ C Q) 5 (q i) &&& (seen ^^^ (-1)))) (nI c') (nI i + 1) (bs σ C' Q') else some (1, bs σ C' Q'))) := rfl
      rw [hasBit_s _ (by omega), bn_s] at st2
      rw [step, st2]
      cases tb : bt (seen ||| (sM (bs σ C Q) 5 (q i) &&& (seen ^^^ (-1)))) to
      · rw [ite_f, nI_1]
        refine outer σ hWy hW ht f (i + 1) C' Q' q' c' _ g1 (by omega) (by omega) hs' tb ?_
        intro a ha w hw
        rw [g3 a (by omega)] at hw
        by_cases ea : a = i
        · subst ea
          rw [b_or, hb, hw]
          cases bt seen w <;> rfl
        · rw [b_or, hcl a (by omega) w hw]
          rfl
      · rw [ite_t]
        exact ⟨true, C', Q', rfl, fun _ => ⟨q', c', g1, (hs' to).mp tb⟩, fun z => (by cases z)⟩
theorem findPath_s {Wy : Nat → Nat → Bool} {s0 to : Nat} (σ : St_) (hWy : ∀ u w, u < 22 → bt (sM σ 5 u) w = Wy u w) (hW : ∀ u w, u < 22 → 22 ≤ w → Wy u w = false) (hs : s0 < 22) (ht : to < 22) (hne : to ≠ s0) : ∃ r C' Q', fX1_findPath (nI s0) (nI to) σ = some (nI (n1 r), bs σ C' Q') ∧ (r = true → ∃ q' c', Tq Wy s0 C' Q' q' c' ∧ ∃ a, a < c' ∧ q' a = to) ∧ (r = false → ∃ R : Nat → Bool, R s0 = true ∧ R to = false ∧ ∀ u w, R u = true → Wy u w = true → R w = true) := by
  have g0 : ∀ K : Nat → Option (Int32 × St_), gd_ 0 22 K = K 0 := fun K => gd_s (j := 0) (by decide) (by decide) K
  have e : uM σ 7 0 (nI s0) = bs σ (sM σ 6) (upd (sM σ 7) 0 (nI s0)) := by
    unfold bs
    rw [uA_self]
    rfl
  unfold fX1_findPath
  rw [g0, e]
  have b1 : ∀ u, bt ((1 : Int32) <<< (nI s0 &&& 31)) u = true ↔ u = s0 := by
    intro u
    rcases Nat.lt_or_ge u 32 with h | h
    · rw [b_one s0 (by omega) h]
      exact decide_eq_true_iff
    · rw [b_big h]
      constructor
      · intro z; cases z
      · intro z; omega
  refine outer σ hWy hW ht FU_ 0 _ _ (fun _ => s0) 1 _ ⟨Nat.le_refl 1, rfl, ?_, ?_, ?_⟩ (by decide) (by decide) ?_ ?_ ?_
  · intro a ha
    refine ⟨hs, ?_⟩
    have : a = 0 := by omega
    rw [this, upd_s]
  · intro a b ha hb _
    omega
  · intro a h0 h1
    omega
  · intro u
    rw [b1]
    constructor
    · intro z
      exact ⟨0, by decide, z.symm⟩
    · rintro ⟨a, _, z⟩
      exact z.symm
  · cases z : bt ((1 : Int32) <<< (nI s0 &&& 31)) to
    · rfl
    · exact absurd ((b1 to).mp z) hne
  · intro a ha
    exact absurd ha (Nat.not_lt_zero a)
