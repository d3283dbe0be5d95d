/-! THE REFERENCE'S MOST -/
theorem grows_s {σ : St_} {O M : Mx} {n N V : Nat} (hC : Gc σ O M n N V) (hF : Fe V N M) : (∃ σ', fX6_grows σ = some (0, σ') ∧ Fm σ σ' ∧ Mo V N O M M) ∨ (∃ σ' M', fX6_grows σ = some (1, σ') ∧ Fm σ σ' ∧ Gc σ' O M' n N V ∧ Fe V N M' ∧ tot M' = tot M + 1 ∧ ∀ v f, O v f = false → M' v f = M v f) := by
  have hn := hC.1.2.1
  obtain ⟨T1, F1, h1, e1⟩ := l4 (σ := σ) 0 (sM σ 27) 10 FU_ 0 (sM σ 25) (sM σ 26) rfl (by decide) (fun j hj => absurd hj (Nat.not_lt_zero j))
  rw [gs_self] at e1
  have hq0 : Gq O M n N V T1 F1 (sM σ 27) (fun _ => 0) 0 := ⟨fun a ha => absurd ha (Nat.not_lt_zero a), fun a b ha => absurd ha (Nat.not_lt_zero a), fun a v ha => absurd ha (Nat.not_lt_zero a), fun a v ha => absurd ha (Nat.not_lt_zero a), fun v hv _ => (h1 v hv).1, fun f hf _ => (h1 f hf).2⟩
  obtain ⟨T2, Q2, q2, c2, h2, s2, e2⟩ := l32 hC n FU_ 0 T1 F1 (sM σ 27) (fun _ => 0) 0 (by omega) (by show n < 300; omega) hq0 (fun a ha => absurd ha (Nat.not_lt_zero a)) (fun v hv => absurd hv (Nat.not_lt_zero v))
  have eg : fX6_grows σ = fX6_grows_84 FU_ (nI c2) (nI 0) (gs σ T2 F1 Q2) := by
    show fX6_grows_4 FU_ 0 (nI 0) σ = _
    rw [e1]
    show fX6_grows_32 FU_ (nI 0) (nI 0) _ = _
    rw [e2]
    rfl
  rcases l84 hC FU_ 0 T2 F1 Q2 q2 c2 h2 (Nat.zero_le c2) (by decide) s2 (fun a ha => absurd ha (Nat.not_lt_zero a)) with ⟨T', F', Q', q', c', r1, r2, r3, r4⟩ | ⟨T, F, Q, q, c, fe, v, b, r1, r2, r3, r4, r5, r6, r7, r8, r9, r10⟩
  · refine Or.inl ⟨_, eg.trans r4, Fm_gs σ T' F' Q', ?_⟩
    intro M' hF' hE
    have dec : ∀ u, ∃ x : Bool, x = true ↔ ∃ a, a < c' ∧ q' a = u := by
      intro u
      by_cases e : ∃ a, a < c' ∧ q' a = u
      · exact ⟨true, fun _ => e, fun _ => rfl⟩
      · exact ⟨false, (fun z => by cases z), fun z => absurd z e⟩
    have hd : ∃ D : Nat → Bool, ∀ u, D u = true ↔ ∃ a, a < c' ∧ q' a = u := ⟨fun u => (dec u).choose, fun u => (dec u).choose_spec⟩
    obtain ⟨D, hD⟩ := hd
    have nD : ∀ u, D u = false → ¬ ∃ a, a < c' ∧ q' a = u := fun u h z => by
      rw [(hD u).mpr z] at h
      cases h
    refine L_max (A := O) (X := fun v => D v) (Y := fun f => D (10 + f)) hE ?_ ?_ ?_ ?_
    · intro v f hv hf hx hy ho
      cases hm : M v f
      · obtain ⟨a, ha, ea⟩ := (hD v).mp hx
        exact absurd ((r3 a ha).1 v f hv ea ho hm) (nD _ hy)
      · rfl
    · intro v f hv hf hx hy ho
      cases hm : M v f
      · rfl
      · obtain ⟨a, ha, ea⟩ := (hD (10 + f)).mp hy
        exact absurd ((r3 a ha).2 f v hf ea ho hm) (nD _ hx)
    · intro v hv hx
      by_cases e : v < n
      · rcases Nat.lt_or_ge (row M v) V with z | z
        · exact absurd (r2 v e z) (nD _ hx)
        · have := hF'.1 v hv
          omega
      · have : row M' v = row M v := cn_congr 10 (fun f hf => hE v f hv hf (by
          cases ho : O v f
          · rfl
          · exact absurd (hC.2.2.2.2.2 v f ho).1 e))
        omega
    · intro f hf hy
      obtain ⟨a, ha, ea⟩ := (hD (10 + f)).mp hy
      have h3 := (r1.2.2.2.1 a f ha hf ea).1
      have := hF'.2 f hf
      omega
  · obtain ⟨⟨k2, kn, kN, kV, bN, bV⟩, k21, k22, k23, k24, kO⟩ := hC
    have et : fX6_turns (nI fe) (gs σ T (upd F fe (nI v)) Q) = fX6_turns_19 FU_ (nI fe) (nI v) (uM (gs σ T (upd F fe (nI v)) Q) 24 fe (nI (col M fe + 1))) := by
      unfold fX6_turns
      rw [gd_s r2 (by decide), gd_s r2 (by decide), gd_s r2 (by decide), show sM (gs σ T (upd F fe (nI v)) Q) 24 fe = nI (col M fe) from k24 fe r2, nI_1]
      rw [show sM (uM (gs σ T (upd F fe (nI v)) Q) 24 fe (nI (col M fe + 1))) 26 fe = nI v from upd_s _ _ _]
    obtain ⟨σ', M', g1, g2, g3, g4, g5, S, g6⟩ := turn_s r1 hF r2 r3 (F2 := upd F fe (nI v)) (fun f hf => upd_n _ _ hf) FU_ c fe v b (uM (gs σ T (upd F fe (nI v)) Q) 24 fe (nI (col M fe + 1))) M (Nat.le_refl c) r5 r6 r4 r2 r7 r8 (J_w (by
        rintro u (z | z)
        · exact Or.inl z
        · exact Or.inr (Or.inl z)) (J_snk (J_init (S := fun u => u = 21) hF (Or.inr rfl) rfl) r2 (by omega) r9)) rfl rfl k22 k23 (by
        intro d hd
        show upd (sM σ 24) fe (nI (col M fe + 1)) d = _
        by_cases e : d = fe
        · rw [e, upd_s, if_pos rfl]
        · rw [upd_n _ _ e, if_neg e]
          exact k24 d hd) (by
        have : c ≤ 20 := ph 20 c _ (fun a ha => (r1.1 a ha).1) r1.2.1
        show c < 300
        omega)
    obtain ⟨j1, j2, j3, j4, j5, j6, j7, j8, j9, j10⟩ := g6
    rw [sd20, sd21] at j4
    have fr : Fm σ σ' := Fm_t (Fm_t (Fm_gs σ T (upd F fe (nI v)) Q) (Fm_A _ (k := 24) (by decide) _)) g2
    refine Or.inr ⟨σ', M', ?_, fr, ⟨⟨?_, kn, ?_, ?_, bN, bV⟩, ?_, g3, g4, g5, kO⟩, ⟨fun a ha => ?_, fun d hd => j7 d hd (by omega)⟩, by omega, j10⟩
    · rw [eg, r10]
      unfold fX6_grows_182
      rw [et, g1]
      rfl
    · exact (congrFun fr.1 2).trans k2
    · rw [fr.2.2 5 (by decide)]; exact kN
    · rw [fr.2.2 5 (by decide)]; exact kV
    · rw [fr.2.2 21 (by decide)]; exact k21
    · have := j5 a ha (by omega)
      omega
theorem m138 {O M0 : Mx} {n N V : Nat} : ∀ fu σ M, Gc σ O M n N V → Fe V N M → (∀ v f, O v f = false → M v f = M0 v f) → 100 < fu + tot M → ∃ σ' M', fX6_most_138 fu (nI (tot M)) σ = some (nI (tot M'), σ') ∧ Fm σ σ' ∧ Fe V N M' ∧ (∀ v f, O v f = false → M' v f = M0 v f) ∧ Mo V N O M0 M'
  | 0, _, M, _, _, _, h => absurd h (by have := tot_100 M; omega)
  | fu + 1, σ, M, hC, hF, hE, hfu => by
    have eq : fX6_most_138 (fu + 1) (nI (tot M)) σ = (bn_ (fX6_grows σ) fun r19 => (if r19.1 = 0 then some (nI (tot M), r19.2) else fX6_most_138  fu (nI (tot M) + 1) r19.2)) := rfl
    rcases grows_s hC hF with ⟨σ', g1, g2, g3⟩ | ⟨σ', M', g1, g2, g3, g4, g5, g6⟩
    · rw [g1, bn_s] at eq
      dsimp only at eq
      rw [if_pos (show (0 : Int32) = 0 from rfl)] at eq
      exact ⟨σ', M, eq, g2, hF, hE, fun M' h1 h2 => g3 M' h1 (fun v f hv hf ho => (h2 v f hv hf ho).trans (hE v f ho).symm)⟩
    · rw [g1, bn_s] at eq
      dsimp only at eq
      rw [if_neg one0, nI_1, ← g5] at eq
      obtain ⟨σ2, M2, r1, r2, r3, r4, r5⟩ := m138 fu σ' M' g3 g4 (fun v f ho => (g6 v f ho).trans (hE v f ho)) (by omega)
      exact ⟨σ2, M2, eq.trans r1, Fm_t g2 r2, r3, r4, r5⟩
/-- what stands before the search: fixed pairs P, open pairs O -/
def Gp (σ : St_) (P O : Mx) (n N V : Nat) : Prop :=
  (sS σ 2 = nI n ∧ n ≤ 10 ∧ sM σ 5 0 = nI N ∧ sM σ 5 1 = nI V ∧ N ≤ 5 ∧ V ≤ 9) ∧
  (∀ v f, v < 10 → f < 10 → sM σ 20 (10 * v + f) = nI (n1 (P v f))) ∧
  (∀ v f, v < 10 → f < 10 → sM σ 21 (10 * v + f) = nI (n1 (O v f))) ∧
  (∀ v f, O v f = true → v < n ∧ f < n) ∧ (∀ v f, O v f = true → P v f = false)
theorem m94 {P O : Mx} {n N V : Nat} (σ : St_) (hC : Gc σ O P n N V) : ∀ d fu g, g + d = 10 → d < fu → (∀ a, a < g → row P a ≤ V ∧ col P a ≤ N) → (fX6_most_94 fu (nI (tot P)) (nI g) σ = fX6_most_138 FU_ (nI (tot P)) σ ∧ Fe V N P) ∨ (fX6_most_94 fu (nI (tot P)) (nI g) σ = some (-1, σ) ∧ ¬ Fe V N P)
  | d, 0, _, _, h, _ => absurd h (Nat.not_lt_zero d)
  | 0, fu + 1, g, hg, _, hj => by
    refine Or.inl ⟨?_, fun v hv => (hj v (by omega)).1, fun f hf => (hj f (by omega)).2⟩
    show (if 10 ≤ nI g then fX6_most_138 FU_ (nI (tot P)) σ else _) = _
    rw [if_pos (le_10 (by omega) (by omega))]
  | d + 1, fu + 1, g, hg, hfu, hj => by
    have hC' := hC
    obtain ⟨⟨c2, cn, cN, cV, bN, bV⟩, c21, c22, c23, c24, cO⟩ := hC
    have hg10 : g < 10 := by omega
    have eq : fX6_most_94 (fu + 1) (nI (tot P)) (nI g) σ = (if 10 ≤ nI g then fX6_most_138  FU_ (nI (tot P)) σ else (gd_ (nI g) 10 fun j12 => (gd_ (nI 1) 6 fun j13 => (if (sM σ 5 j13) < (sM σ 23 j12) then some ((-1), σ) else (gd_ (nI g) 10 fun j14 => (gd_ (nI 0) 6 fun j15 => (if (sM σ 24 j14) ≤ (sM σ 5 j15) then fX6_most_94  fu (nI (tot P)) (nI g + 1) σ else some ((-1), σ)))))))) := rfl
    have hr := row_le P g
    have hc := col_le P g
    rw [if_neg (nle_10 hg10), gd_s hg10 (by decide), gd_s (by decide) (by decide), cV, c23 g hg10, gd_s hg10 (by decide), gd_s (by decide) (by decide), cN, c24 g hg10, nI_1] at eq
    by_cases q1 : V < row P g
    · rw [if_pos (nI_lt q1 (by omega))] at eq
      exact Or.inr ⟨eq, fun h => by have := h.1 g hg10; omega⟩
    · rw [if_neg (nI_nlt (by omega) (by omega))] at eq
      by_cases q2 : col P g ≤ N
      · rw [if_pos (nI_le q2 (by omega))] at eq
        rw [eq]
        refine m94 σ hC' d fu (g + 1) (by omega) (by omega) ?_
        intro a ha
        by_cases e : a = g
        · rw [e]; exact ⟨by omega, q2⟩
        · exact hj a (by omega)
      · rw [if_neg (nI_ge (by omega) (by omega))] at eq
        exact Or.inr ⟨eq, fun h => by have := h.2 g hg10; omega⟩
/-- the pairs before place k -/
def pre (P : Mx) (k : Nat) : Mx := fun v f => P v f && decide (10 * v + f < k)
theorem pre_up (P : Mx) {a b : Nat} (ha : a < 10) (hb : b < 10) : ∀ v f, v < 10 → f < 10 → pre P (10 * a + b + 1) v f = up (pre P (10 * a + b)) a b (P a b) v f := by
  intro v f hv hf
  by_cases e : v = a ∧ f = b
  · rw [e.1, e.2, up_s]
    unfold pre
    rw [decide_eq_true (by omega), Bool.and_true]
  · rw [up_n _ _ e]
    unfold pre
    by_cases q : 10 * v + f < 10 * a + b
    · rw [decide_eq_true q, decide_eq_true (by omega)]
    · rw [decide_eq_false q, decide_eq_false (by omega)]
theorem row_c {M M' : Mx} {v : Nat} (h : ∀ f, f < 10 → M v f = M' v f) : row M v = row M' v := cn_congr 10 h
theorem col_c {M M' : Mx} {f : Nat} (h : ∀ v, v < 10 → M v f = M' v f) : col M f = col M' f := cn_congr 10 h
theorem tot_c {M M' : Mx} (h : ∀ v f, v < 10 → f < 10 → M v f = M' v f) : tot M = tot M' := sm_congr 10 (fun f hf => col_c (fun v hv => h v f hv hf))
