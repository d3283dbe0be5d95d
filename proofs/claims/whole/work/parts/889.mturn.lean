/-! THE REFERENCE'S SEARCH, the whole, and its turn -/
def Cl (O M : Mx) (i : Nat) (q : Nat → Nat) (c : Nat) : Prop := ∀ a, a < i → (∀ v f, v < 10 → q a = v → O v f = true → M v f = false → ∃ b, b < c ∧ q b = 10 + f) ∧ (∀ f v, f < 10 → q a = 10 + f → O v f = true → M v f = true → ∃ b, b < c ∧ q b = v)
theorem l84 {σ : St_} {O M : Mx} {n N V : Nat} (hC : Gc σ O M n N V) : ∀ fu i T F Q q c, Gq O M n N V T F Q q c → i ≤ c → 20 - i < fu → (∀ v, v < n → row M v < V → ∃ a, a < c ∧ q a = v) → Cl O M i q c → (∃ T' F' Q' q' c', Gq O M n N V T' F' Q' q' c' ∧ (∀ v, v < n → row M v < V → ∃ a, a < c' ∧ q' a = v) ∧ Cl O M c' q' c' ∧ fX6_grows_84 fu (nI c) (nI i) (gs σ T F Q) = some (0, gs σ T' F' Q')) ∨ Suc σ O M n N V (fX6_grows_84 fu (nI c) (nI i) (gs σ T F Q))
  | 0, _, _, _, _, _, _, _, _, h, _, _ => absurd h (Nat.not_lt_zero _)
  | fu + 1, i, T, F, Q, q, c, hq, hi, hfu, hs, hcl => by
    have hc : c ≤ 20 := ph 20 c _ (fun a ha => (hq.1 a ha).1) hq.2.1
    have hn := hC.1.2.1
    have eq : fX6_grows_84 (fu + 1) (nI c) (nI i) (gs σ T F Q) = (if nI c ≤ nI i then some (0, gs σ T F Q) else (gd_ (nI i) 20 fun j10 => (if 10 ≤ (sM (gs σ T F Q) 27 j10) then fX6_grows_222 (fX6_grows_84  fu) FU_ (nI c) (nI i) ((sM (gs σ T F Q) 27 j10) - 10) (nI 0) (gs σ T F Q) else fX6_grows_105 (fX6_grows_84  fu) FU_ (nI c) (nI i) (sM (gs σ T F Q) 27 j10) (nI 0) (gs σ T F Q)))) := rfl
    by_cases e : c ≤ i
    · rw [if_pos (nI_le e (by omega))] at eq
      have ec : c = i := by omega
      subst ec
      exact Or.inl ⟨T, F, Q, q, c, hq, hs, hcl, eq⟩
    · have hi' : i < c := by omega
      obtain ⟨q20, eQ⟩ := hq.1 i hi'
      rw [if_neg (nI_ge hi' (by omega)), gd_s (by omega) (by decide), show sM (gs σ T F Q) 27 i = nI (q i) from eQ] at eq
      by_cases hu : 10 ≤ q i
      · rw [if_pos (le_10 hu (by omega)), sub10 hu] at eq
        obtain ⟨T', F', Q', q', c', r1, r2, r3, r4, r5⟩ := l222 hC (fX6_grows_84 fu) (q i - 10) i (by omega) n FU_ 0 T F Q q c (by omega) (by show n < 300; omega) hq hi' (by omega) (fun v hv => absurd hv (Nat.not_lt_zero v))
        rw [eq, r5, nI_1]
        refine l84 hC fu (i + 1) T' F' Q' q' c' r1 (by omega) (by omega) ?_ ?_
        · intro v hv hr
          obtain ⟨a, ha, ea⟩ := hs v hv hr
          exact ⟨a, by omega, by rw [r3 a ha]; exact ea⟩
        · intro a ha
          by_cases ea : a = i
          · subst ea
            rw [r3 a hi']
            refine ⟨fun v f hv z => by omega, ?_⟩
            intro f v hf z h1 h2
            have : q a - 10 = f := by omega
            rw [this] at r4
            exact r4 v ((hC.2.2.2.2.2 v f h1).1) h1 h2
          · rw [r3 a (by omega)]
            obtain ⟨p1, p2⟩ := hcl a (by omega)
            refine ⟨?_, ?_⟩
            · intro v f hv z h1 h2
              obtain ⟨b, hb, eb⟩ := p1 v f hv z h1 h2
              exact ⟨b, by omega, by rw [r3 b hb]; exact eb⟩
            · intro f v hf z h1 h2
              obtain ⟨b, hb, eb⟩ := p2 f v hf z h1 h2
              exact ⟨b, by omega, by rw [r3 b hb]; exact eb⟩
      · rw [if_neg (nle_10 (by omega))] at eq
        rcases l105 hC (fX6_grows_84 fu) (q i) i (by omega) n FU_ 0 T F Q q c (by omega) (by show n < 300; omega) hq hi' rfl (fun v hv => absurd hv (Nat.not_lt_zero v)) with ⟨T', F', Q', q', c', r1, r2, r3, r4, r5⟩ | r
        · rw [eq, r5, nI_1]
          refine l84 hC fu (i + 1) T' F' Q' q' c' r1 (by omega) (by omega) ?_ ?_
          · intro v hv hr
            obtain ⟨a, ha, ea⟩ := hs v hv hr
            exact ⟨a, by omega, by rw [r3 a ha]; exact ea⟩
          · intro a ha
            by_cases ea : a = i
            · subst ea
              rw [r3 a hi']
              refine ⟨?_, fun f v hf z => by omega⟩
              intro v f hv z h1 h2
              rw [z] at r4
              exact r4 f ((hC.2.2.2.2.2 v f h1).2) h1 h2
            · rw [r3 a (by omega)]
              obtain ⟨p1, p2⟩ := hcl a (by omega)
              refine ⟨?_, ?_⟩
              · intro v f hv z h1 h2
                obtain ⟨b, hb, eb⟩ := p1 v f hv z h1 h2
                exact ⟨b, by omega, by rw [r3 b hb]; exact eb⟩
              · intro f v hf z h1 h2
                obtain ⟨b, hb, eb⟩ := p2 f v hf z h1 h2
                exact ⟨b, by omega, by rw [r3 b hb]; exact eb⟩
        · rw [eq]
          exact Or.inr r
theorem l32 {σ : St_} {O M : Mx} {n N V : Nat} (hC : Gc σ O M n N V) : ∀ d fu g T F Q q c, g + d = n → d < fu → Gq O M n N V T F Q q c → (∀ a, a < c → q a < g) → (∀ v, v < g → row M v < V → ∃ a, a < c ∧ q a = v) → ∃ T' Q' q' c', Gq O M n N V T' F Q' q' c' ∧ (∀ v, v < n → row M v < V → ∃ a, a < c' ∧ q' a = v) ∧ fX6_grows_32 fu (nI c) (nI g) (gs σ T F Q) = fX6_grows_82 (nI c') (gs σ T' F Q')
  | d, 0, _, _, _, _, _, _, _, h, _, _, _ => absurd h (Nat.not_lt_zero d)
  | 0, fu + 1, g, T, F, Q, q, c, hg, _, hq, _, hs => by
    refine ⟨T, Q, q, c, hq, fun v hv => hs v (by omega), ?_⟩
    have hn := hC.1.2.1
    show (if sS (gs σ T F Q) 2 ≤ nI g then fX6_grows_82 (nI c) (gs σ T F Q) else _) = _
    rw [show sS (gs σ T F Q) 2 = nI n from hC.1.1, if_pos (nI_le (by omega) (by omega))]
  | d + 1, fu + 1, g, T, F, Q, q, c, hg, hfu, hq, hl, hs => by
    have hC' := hC
    obtain ⟨⟨c2, cn, cN, cV, bN, bV⟩, c21, c22, c23, c24, cO⟩ := hC
    have hg10 : g < 10 := by omega
    have eq : fX6_grows_32 (fu + 1) (nI c) (nI g) (gs σ T F Q) = (if (sS (gs σ T F Q) 2) ≤ nI g then fX6_grows_82 (nI c) (gs σ T F Q) else (gd_ (nI g) 10 fun j4 => (gd_ (nI 1) 6 fun j5 => (if (sM (gs σ T F Q) 23 j4) < (sM (gs σ T F Q) 5 j5) then (gd_ (nI g) 10 fun j6 => (gd_ (nI c) 20 fun j7 => fX6_grows_32 fu (nI c + 1) (nI g + 1) (uM (uM (gs σ T F Q) 25 j6 (nI 10)) 27 j7 (nI g)))) else fX6_grows_32 fu (nI c) (nI g + 1) (gs σ T F Q))))) := rfl
    have hr10 := row_le M g
    rw [show sS (gs σ T F Q) 2 = nI n from c2, if_neg (nI_ge (by omega) (by omega)), gd_s hg10 (by decide), gd_s (by decide) (by decide), show sM (gs σ T F Q) 23 g = _ from c23 g hg10, show sM (gs σ T F Q) 5 1 = nI V from cV, nI_1] at eq
    by_cases hr : row M g < V
    · have hq' := Gq_v hq hg10 (fun a ha z => by have := hl a ha; omega) (x := nI 10) (Or.inl ⟨rfl, hr, by omega⟩)
      have hc : c + 1 ≤ 20 := ph 20 (c + 1) _ (fun a ha => (hq'.1 a ha).1) hq'.2.1
      rw [if_pos (nI_lt hr (by omega)), gd_s hg10 (by decide), gd_s (by omega) (by decide), gs_25, gs_27, nI_1] at eq
      rw [eq]
      refine l32 hC' d fu (g + 1) _ _ _ _ _ (by omega) (by omega) hq' ?_ ?_
      · intro a ha
        by_cases e : a = c
        · rw [e, ext_c]; omega
        · rw [ext_n q (by omega)]
          have := hl a (by omega)
          omega
      · intro v hv hrv
        by_cases e : v = g
        · exact ⟨c, by omega, by rw [ext_c, e]⟩
        · obtain ⟨a, ha, ea⟩ := hs v (by omega) hrv
          exact ⟨a, by omega, by rw [ext_n q ha]; exact ea⟩
    · rw [if_neg (nI_nlt (by omega) (by omega)), nI_1] at eq
      rw [eq]
      refine l32 hC' d fu (g + 1) _ _ _ _ _ (by omega) (by omega) hq (fun a ha => by have := hl a ha; omega) ?_
      intro v hv hrv
      by_cases e : v = g
      · rw [e] at hrv
        exact absurd hrv hr
      · exact hs v (by omega) hrv
theorem l4 {σ : St_} (x1 : Int32) (Q : Nat → Int32) : ∀ d fu g T F, g + d = 10 → d < fu → (∀ j, j < g → T j = -1 ∧ F j = -1) → ∃ T' F', (∀ j, j < 10 → T' j = -1 ∧ F' j = -1) ∧ fX6_grows_4 fu x1 (nI g) (gs σ T F Q) = fX6_grows_30 x1 (gs σ T' F' Q)
  | d, 0, _, _, _, _, h, _ => absurd h (Nat.not_lt_zero d)
  | 0, fu + 1, g, T, F, hg, _, hj => by
    refine ⟨T, F, fun j h => hj j (by omega), ?_⟩
    show (if 10 ≤ nI g then fX6_grows_30 x1 (gs σ T F Q) else _) = _
    rw [if_pos (le_10 (by omega) (by omega))]
  | d + 1, fu + 1, g, T, F, hg, hfu, hj => by
    have eq : fX6_grows_4 (fu + 1) x1 (nI g) (gs σ T F Q) = (if 10 ≤ nI g then fX6_grows_30  x1 (gs σ T F Q) else (gd_ (nI g) 10 fun j1 => (gd_ (nI g) 10 fun j2 => fX6_grows_4  fu x1 (nI g + 1) (uM (uM (gs σ T F Q) 25 j1 (-1)) 26 j2 (-1))))) := rfl
    rw [if_neg (nle_10 (by omega)), gd_s (by omega) (by decide), gd_s (by omega) (by decide), nI_1, gs_25, gs_26] at eq
    rw [eq]
    refine l4 x1 Q d fu (g + 1) _ _ (by omega) (by omega) ?_
    intro j h
    by_cases e : j = g
    · rw [e, upd_s, upd_s]; exact ⟨rfl, rfl⟩
    · rw [upd_n _ _ e, upd_n _ _ e]; exact hj j (by omega)
def Fm (σ σ' : St_) : Prop := σ'.1 = σ.1 ∧ σ'.2.2 = σ.2.2 ∧ ∀ a, a < 22 ∨ 27 < a → sM σ' a = sM σ a
theorem Fm_r (σ : St_) : Fm σ σ := ⟨rfl, rfl, fun _ _ => rfl⟩
theorem Fm_t {a b c : St_} (h : Fm a b) (g : Fm b c) : Fm a c := ⟨g.1.trans h.1, g.2.1.trans h.2.1, fun k hk => (g.2.2 k hk).trans (h.2.2 k hk)⟩
theorem Fm_A (σ : St_) {k : Nat} (hk : 22 ≤ k ∧ k ≤ 27) (F : Nat → Int32) : Fm σ (uA σ k F) := ⟨rfl, rfl, fun a ha => sM_N σ F (by omega)⟩
theorem Fm_gs (σ : St_) (T F Q : Nat → Int32) : Fm σ (gs σ T F Q) := Fm_t (Fm_t (Fm_A σ (k := 25) (by decide) T) (Fm_A _ (k := 26) (by decide) F)) (Fm_A _ (k := 27) (by decide) Q)
def Fl (σ : St_) (O M : Mx) : Prop := ∀ v f, v < 10 → f < 10 → sM σ 22 (10 * v + f) = nI (n1 (O v f && M v f))
theorem Fl_up {σ : St_} {O M : Mx} {v f : Nat} (h : Fl σ O M) (hf : f < 10) (hO : O v f = true) (b : Bool) : Fl (uM σ 22 (10 * v + f) (nI (n1 b))) O (up M v f b) := by
  intro a c ha hc
  show upd (sM σ 22) (10 * v + f) (nI (n1 b)) (10 * a + c) = _
  by_cases e : a = v ∧ c = f
  · rw [e.1, e.2, upd_s, up_s, hO, Bool.true_and]
  · rw [upd_n _ _ (by omega), up_n M b e]
    exact h a c ha hc
theorem turn_s {O M0 : Mx} {n N V : Nat} {T F F2 Q : Nat → Int32} {q : Nat → Nat} {c fe : Nat} (hq : Gq O M0 n N V T F Q q c) (hF : Fe V N M0) (hfe : fe < 10) (hne : ∀ a, a < c → q a ≠ 10 + fe) (hF2 : ∀ f, f ≠ fe → F2 f = F f) : ∀ fu i f v b σ M, i ≤ c → b < i → q b = v → v < 10 → f < 10 → O v f = true → M0 v f = false → J_ O M0 V N 21 (fun u => u = 21 ∨ u = 10 + fe ∨ ∃ a, i ≤ a ∧ a < c ∧ q a = u) (10 + f) M → sM σ 25 = T → sM σ 26 = F2 → Fl σ O M → (∀ a, a < 10 → sM σ 23 a = nI (row M a)) → (∀ d, d < 10 → sM σ 24 d = nI (col M d + if d = f then 1 else 0)) → i < fu → ∃ σ' M', fX6_turns_19 fu (nI f) (nI v) σ = some σ' ∧ Fm σ σ' ∧ Fl σ' O M' ∧ (∀ a, a < 10 → sM σ' 23 a = nI (row M' a)) ∧ (∀ d, d < 10 → sM σ' 24 d = nI (col M' d)) ∧ ∃ S, J_ O M0 V N 21 S 20 M'
  | 0, i, _, _, _, _, _, _, _, _, _, _, _, _, _, _, _, _, _, _, h => absurd h (Nat.not_lt_zero i)
  | fu + 1, i, f, v, b, σ, M, hi, hb, eb, hv, hf, hO, hM0, hJ, e25, e26, hFl, h23, h24, hfu => by
    obtain ⟨q1, q2, q3, q4, q5, q6⟩ := hq
    have hix : 10 * v + f < 100 := by omega
    have hnS : ¬ (v = 21 ∨ v = 10 + fe ∨ ∃ a, i ≤ a ∧ a < c ∧ q a = v) := by
      rintro (z | z | ⟨a, a1, a2, a3⟩)
      · omega
      · omega
      · have := q2 a b a2 (by omega) (a3.trans eb.symm)
        omega
    obtain ⟨m1, j1⟩ := J_add hJ hv hf hnS hO hM0
    have f1 := Fl_up hFl (v := v) hf hO true
    have er := row_up M (v := v) hf true
    have ec := col_up M (f := f) hv true
    rw [m1] at er ec
    have z0 : n1 false = 0 := rfl
    have z1 : n1 true = 1 := rfl
    have eq : fX6_turns_19 (fu + 1) (nI f) (nI v) σ = (gd_ (nI v) 10 fun j4 => (if (sM σ 25 j4) = 10 then fX6_turns_71 (nI f) (nI v) σ else (gd_ ((10 * nI v) + nI f) 100 fun j5 => (gd_ (nI v) 10 fun j6 => (gd_ ((10 * nI v) + (sM (uM σ 22 j5 (vp_nar .boolean 1)) 25 j6)) 100 fun j7 => (gd_ (sM (uM σ 22 j5 (vp_nar .boolean 1)) 25 j6) 10 fun j8 => fX6_turns_19 fu (sM (uM σ 22 j5 (vp_nar .boolean 1)) 25 j6) (sM (uM (uM σ 22 j5 (vp_nar .boolean 1)) 22 j7 (vp_nar .boolean 0)) 26 j8) (uM (uM σ 22 j5 (vp_nar .boolean 1)) 22 j7 (vp_nar .boolean 0)))))))) := rfl
    rw [gd_s hv (by decide), e25, nar1, nar0, ix_10] at eq
    rcases q3 b v (by omega) hv eb with ⟨t1, t2, t3⟩ | ⟨f', b', g1, g2, g3, g4, g5, g6⟩
    · rw [if_pos (show T v = 10 from t1)] at eq
      unfold fX6_turns_71 at eq
      rw [ix_10, gd_s hix (by decide), gd_s hv (by decide), gd_s hv (by decide), nar1] at eq
      refine ⟨_, up M v f true, eq, ?_, f1, ?_, ?_, _, J_src j1 hv t2⟩
      · exact Fm_t (Fm_A σ (k := 22) (by decide) _) (Fm_A _ (k := 23) (by decide) _)
      · intro a ha
        show upd (sM σ 23) v (sM σ 23 v + 1) a = _
        by_cases e : a = v
        · rw [e, upd_s, h23 v hv, nI_1]
          congr 1
          omega
        · rw [upd_n _ _ e, row_up' M e]
          exact h23 a ha
      · intro d hd
        show sM σ 24 d = _
        rw [h24 d hd]
        congr 1
        by_cases e : d = f
        · rw [if_pos e, e]
          omega
        · rw [if_neg e, col_up' M e]
          omega
    · have hn10 : ¬ T v = 10 := by
        rw [g4]
        intro z
        have := (nI_eq (a := f') (b := 10) (by omega) (by decide)).mp z
        omega
      have eT : sM (uM σ 22 (10 * v + f) 1) 25 v = nI f' := by
        show sM σ 25 v = _
        rw [e25, g4]
      have hnS2 : ¬ ((fun u => (u = 21 ∨ u = 10 + fe ∨ ∃ a, i ≤ a ∧ a < c ∧ q a = u) ∨ u = v) (10 + f')) := by
        rintro ((z | z | ⟨a, a1, a2, a3⟩) | z)
        · omega
        · exact hne b' (by omega) (g3.trans z)
        · have := q2 a b' a2 (by omega) (a3.trans g3.symm)
          omega
        · omega
      obtain ⟨m2, j2⟩ := J_drop hF j1 hv g1 hnS2 g5 g6
      have f2 := Fl_up f1 (v := v) g1 g5 false
      have er2 := row_up (up M v f true) (v := v) g1 false
      have ec2 := col_up (up M v f true) (f := f') hv false
      rw [m2] at er2 ec2
      rw [if_neg hn10, gd_s hix (by decide), gd_s hv (by decide), eT, ix_10, gd_s (by omega) (by decide), gd_s g1 (by decide)] at eq
      obtain ⟨p1, v', b'', p2, p3, p4, p5, p6, p7⟩ := q4 b' f' (by omega) g1 g3
      have hff : f' ≠ fe := fun z => hne b' (by omega) (by rw [g3, z])
      have eF : sM (uM (uM σ 22 (10 * v + f) 1) 22 (10 * v + f') 0) 26 f' = nI v' := by
        show sM σ 26 f' = _
        rw [e26, hF2 f' hff, p5]
      rw [eF] at eq
      obtain ⟨σ', M', r1, r2, r3, r4, r5, r6⟩ := turn_s ⟨q1, q2, q3, q4, q5, q6⟩ hF hfe hne hF2 fu b' f' v' b'' (uM (uM σ 22 (10 * v + f) 1) 22 (10 * v + f') 0) (up (up M v f true) v f' false) (by omega) p3 p4 p2 g1 p6 p7 (J_w (by
          rintro u ((((z | z | ⟨a, a1, a2, a3⟩)) | z) | z)
          · exact Or.inl z
          · exact Or.inr (Or.inl z)
          · exact Or.inr (Or.inr ⟨a, by omega, a2, a3⟩)
          · exact Or.inr (Or.inr ⟨b, by omega, by omega, by rw [z]; exact eb⟩)
          · exact Or.inr (Or.inr ⟨b', Nat.le_refl _, by omega, by rw [z]; exact g3⟩)) j2) e25 e26 f2 (by
          intro a ha
          show sM σ 23 a = _
          rw [h23 a ha]
          by_cases e : a = v
          · congr 1
            rw [e]
            omega
          · rw [row_up' _ e, row_up' _ e]) (by
          intro d hd
          show sM σ 24 d = _
          rw [h24 d hd]
          congr 1
          by_cases e : d = f'
          · rw [if_pos e]
            by_cases e2 : d = f
            · rw [if_pos e2]
              rw [← e] at ec2 ⊢
              rw [← e2] at ec ec2 ⊢
              omega
            · rw [if_neg e2]
              have := col_up' M (v := v) e2 true
              rw [← e] at ec2 ⊢
              omega
          · rw [if_neg e, col_up' _ e]
            by_cases e2 : d = f
            · rw [if_pos e2, e2]
              omega
            · rw [if_neg e2, col_up' M e2]) (by omega)
      exact ⟨σ', M', eq.trans r1, Fm_t (Fm_t (Fm_A σ (k := 22) (by decide) _) (Fm_A _ (k := 22) (by decide) _)) r2, r3, r4, r5, r6⟩
