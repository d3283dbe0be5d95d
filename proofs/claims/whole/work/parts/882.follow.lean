/-! FOLLOWING a path back -/
def sd (u : Nat) : Nat := if u < 10 ∨ u = 20 then 0 else 1
def Fe (V N : Nat) (M : Mx) : Prop := (∀ v, v < 10 → row M v ≤ V) ∧ ∀ f, f < 10 → col M f ≤ N
def J_ (A M0 : Mx) (V N t : Nat) (S : Nat → Prop) (h : Nat) (M : Mx) : Prop :=
  S h ∧ S t ∧
  (∀ v f, M v f ≠ M0 v f → S v ∧ S (10 + f)) ∧
  tot M + sd h = tot M0 + sd t ∧
  (∀ v, v < 10 → v ≠ h → row M v + (if v = t then 1 else 0) ≤ V) ∧
  (∀ v, v < 10 → v = h → row M v + (if v = t then 1 else 0) ≤ row M0 v + 1) ∧
  (∀ f, f < 10 → 10 + f ≠ h → col M f ≤ N) ∧
  (∀ f, f < 10 → 10 + f = h → col M f + 1 ≤ N) ∧
  (∀ f, M t f = true → M0 t f = true) ∧
  (∀ v f, A v f = false → M v f = M0 v f)
theorem J_init {A M0 : Mx} {V N t : Nat} {S : Nat → Prop} (hF : Fe V N M0) (ht : t < 10 ∨ t = 21) (hS : S t) : J_ A M0 V N t S t M0 := by
  refine ⟨hS, hS, fun v f h => absurd rfl h, rfl, ?_, ?_, ?_, ?_, fun f h => h, fun v f _ => rfl⟩
  · intro v hv hne
    rw [if_neg hne]
    exact hF.1 v hv
  · intro v hv he
    rw [if_pos he]
    exact Nat.le_refl _
  · intro f hf _
    exact hF.2 f hf
  · intro f hf he
    omega
theorem J_w {A M0 M : Mx} {V N t h : Nat} {S S' : Nat → Prop} (hs : ∀ u, S u → S' u) (j : J_ A M0 V N t S h M) : J_ A M0 V N t S' h M :=
  ⟨hs _ j.1, hs _ j.2.1, fun v f q => ⟨hs _ (j.2.2.1 v f q).1, hs _ (j.2.2.1 v f q).2⟩, j.2.2.2⟩
theorem J_row {A M0 M : Mx} {V N t h v : Nat} {S : Nat → Prop} (j : J_ A M0 V N t S h M) (hS : ¬ S v) : row M v = row M0 v := by
  refine cn_congr 10 (fun f _ => ?_)
  by_cases q : M v f = M0 v f
  · exact q
  · exact absurd (j.2.2.1 v f q).1 hS
theorem J_col {A M0 M : Mx} {V N t h f : Nat} {S : Nat → Prop} (j : J_ A M0 V N t S h M) (hS : ¬ S (10 + f)) : col M f = col M0 f := by
  refine cn_congr 10 (fun v _ => ?_)
  by_cases q : M v f = M0 v f
  · exact q
  · exact absurd (j.2.2.1 v f q).2 hS
theorem J_add {A M0 M : Mx} {V N t v f : Nat} {S : Nat → Prop} (j : J_ A M0 V N t S (10 + f) M) (hv : v < 10) (hf : f < 10) (hS : ¬ S v) (hA : A v f = true) (m0 : M0 v f = false) : M v f = false ∧ J_ A M0 V N t (fun u => S u ∨ u = v) v (up M v f true) := by
  have hr := J_row j hS
  obtain ⟨j1, j2, j3, j4, j5, j6, j7, j8, j9, j10⟩ := j
  have hm : M v f = false := by
    by_cases q : M v f = M0 v f
    · rw [q, m0]
    · exact absurd (j3 v f q).1 hS
  have hvt : v ≠ t := fun e => hS (e ▸ j2)
  have e1 := row_up M (v := v) hf true
  have e2 := col_up M (f := f) hv true
  have e3 := tot_up M hv hf true
  rw [hm] at e1 e2 e3
  have z0 : n1 false = 0 := rfl
  have z1 : n1 true = 1 := rfl
  have s1 : sd (10 + f) = 1 := if_neg (by omega)
  have s2 : sd v = 0 := if_pos (Or.inl hv)
  refine ⟨hm, Or.inr rfl, Or.inl j2, ?_, ?_, ?_, ?_, ?_, ?_, ?_, ?_⟩
  · intro a c q
    by_cases e : a = v ∧ c = f
    · rw [e.1, e.2]
      exact ⟨Or.inr rfl, Or.inl j1⟩
    · rw [up_n M true e] at q
      exact ⟨Or.inl (j3 a c q).1, Or.inl (j3 a c q).2⟩
  · omega
  · intro a ha hne
    rw [row_up' M hne]
    exact j5 a ha (by omega)
  · intro a ha he
    subst he
    rw [if_neg hvt]
    omega
  · intro c hc _
    by_cases e : c = f
    · subst e
      have := j8 c hc rfl
      omega
    · rw [col_up' M e]
      exact j7 c hc (by omega)
  · intro c hc he
    omega
  · intro c q
    rw [up_n M true (fun z => hvt z.1.symm)] at q
    exact j9 c q
  · intro a c q
    rw [up_n M true (fun z => by rw [z.1, z.2, hA] at q; cases q)]
    exact j10 a c q
theorem J_drop {A M0 M : Mx} {V N t v f : Nat} {S : Nat → Prop} (hF : Fe V N M0) (j : J_ A M0 V N t S v M) (hv : v < 10) (hf : f < 10) (hS : ¬ S (10 + f)) (hA : A v f = true) (m0 : M0 v f = true) : M v f = true ∧ J_ A M0 V N t (fun u => S u ∨ u = 10 + f) (10 + f) (up M v f false) := by
  have hr := J_col j hS
  obtain ⟨j1, j2, j3, j4, j5, j6, j7, j8, j9, j10⟩ := j
  have hm : M v f = true := by
    by_cases q : M v f = M0 v f
    · rw [q, m0]
    · exact absurd (j3 v f q).2 hS
  have e1 := row_up M (v := v) hf false
  have e2 := col_up M (f := f) hv false
  have e3 := tot_up M hv hf false
  rw [hm] at e1 e2 e3
  have z0 : n1 false = 0 := rfl
  have z1 : n1 true = 1 := rfl
  have s1 : sd (10 + f) = 1 := if_neg (by omega)
  have s2 : sd v = 0 := if_pos (Or.inl hv)
  refine ⟨hm, Or.inr rfl, Or.inl j2, ?_, ?_, ?_, ?_, ?_, ?_, ?_, ?_⟩
  · intro a c q
    by_cases e : a = v ∧ c = f
    · rw [e.1, e.2]
      exact ⟨Or.inl j1, Or.inr rfl⟩
    · rw [up_n M false e] at q
      exact ⟨Or.inl (j3 a c q).1, Or.inl (j3 a c q).2⟩
  · omega
  · intro a ha _
    by_cases e : a = v
    · subst e
      have h1 := j6 a ha rfl
      have h2 := hF.1 a ha
      omega
    · rw [row_up' M e]
      exact j5 a ha e
  · intro a ha he
    omega
  · intro c hc hne
    rw [col_up' M (show c ≠ f by omega)]
    exact j7 c hc (by omega)
  · intro c hc he
    have : c = f := by omega
    subst this
    have := hF.2 c hc
    omega
  · intro c q
    by_cases e : t = v ∧ c = f
    · rw [e.1, e.2, up_s] at q
      cases q
    · rw [up_n M false e] at q
      exact j9 c q
  · intro a c q
    rw [up_n M false (fun z => by rw [z.1, z.2, hA] at q; cases q)]
    exact j10 a c q
theorem J_src {A M0 M : Mx} {V N t v : Nat} {S : Nat → Prop} (j : J_ A M0 V N t S v M) (hv : v < 10) (hr : row M0 v < V) : J_ A M0 V N t (fun u => S u ∨ u = 20) 20 M := by
  obtain ⟨j1, j2, j3, j4, j5, j6, j7, j8, j9, j10⟩ := j
  have s1 : sd 20 = 0 := rfl
  have s2 : sd v = 0 := if_pos (Or.inl hv)
  refine ⟨Or.inr rfl, Or.inl j2, fun a c q => ⟨Or.inl (j3 a c q).1, Or.inl (j3 a c q).2⟩, by omega, ?_, ?_, ?_, ?_, j9, j10⟩
  · intro a ha _
    by_cases e : a = v
    · have := j6 a ha e
      rw [e] at this ⊢
      omega
    · exact j5 a ha e
  · intro a ha he
    omega
  · intro c hc _
    exact j7 c hc (by omega)
  · intro c hc he
    omega
theorem J_toSrc {A M0 M : Mx} {V N t v : Nat} {S : Nat → Prop} (j : J_ A M0 V N t S 20 M) (hv : v < 10) (hS : ¬ S v) : J_ A M0 V N t (fun u => S u ∨ u = v) v M := by
  have hr := J_row j hS
  obtain ⟨j1, j2, j3, j4, j5, j6, j7, j8, j9, j10⟩ := j
  have hvt : v ≠ t := fun e => hS (e ▸ j2)
  have s1 : sd 20 = 0 := rfl
  have s2 : sd v = 0 := if_pos (Or.inl hv)
  refine ⟨Or.inr rfl, Or.inl j2, fun a c q => ⟨Or.inl (j3 a c q).1, Or.inl (j3 a c q).2⟩, by omega, ?_, ?_, ?_, ?_, j9, j10⟩
  · intro a ha _
    exact j5 a ha (by omega)
  · intro a ha he
    subst he
    rw [if_neg hvt]
    omega
  · intro c hc _
    exact j7 c hc (by omega)
  · intro c hc he
    omega
theorem J_snk {A M0 M : Mx} {V N t f : Nat} {S : Nat → Prop} (j : J_ A M0 V N t S 21 M) (hf : f < 10) (hS : ¬ S (10 + f)) (hc : col M0 f < N) : J_ A M0 V N t (fun u => S u ∨ u = 10 + f) (10 + f) M := by
  have hr := J_col j hS
  obtain ⟨j1, j2, j3, j4, j5, j6, j7, j8, j9, j10⟩ := j
  have s1 : sd 21 = 1 := rfl
  have s2 : sd (10 + f) = 1 := if_neg (by omega)
  refine ⟨Or.inr rfl, Or.inl j2, fun a c q => ⟨Or.inl (j3 a c q).1, Or.inl (j3 a c q).2⟩, by omega, ?_, ?_, ?_, ?_, j9, j10⟩
  · intro a ha _
    exact j5 a ha (by omega)
  · intro a ha he
    omega
  · intro c hc _
    exact j7 c hc (by omega)
  · intro c hc he
    have : c = f := by omega
    subst this
    omega
theorem J_fromSnk {A M0 M : Mx} {V N t f : Nat} {S : Nat → Prop} (j : J_ A M0 V N t S (10 + f) M) (hf : f < 10) : J_ A M0 V N t (fun u => S u ∨ u = 21) 21 M := by
  obtain ⟨j1, j2, j3, j4, j5, j6, j7, j8, j9, j10⟩ := j
  have s1 : sd 21 = 1 := rfl
  have s2 : sd (10 + f) = 1 := if_neg (by omega)
  refine ⟨Or.inr rfl, Or.inl j2, fun a c q => ⟨Or.inl (j3 a c q).1, Or.inl (j3 a c q).2⟩, by omega, ?_, ?_, ?_, ?_, j9, j10⟩
  · intro a ha _
    exact j5 a ha (by omega)
  · intro a ha he
    omega
  · intro c hc _
    by_cases e : c = f
    · have := j8 c hc (by omega)
      omega
    · exact j7 c hc (by omega)
  · intro c hc he
    omega
/-- no more than K things fit below K -/
theorem ph : ∀ (K c : Nat) (q : Nat → Nat), (∀ a, a < c → q a < K) → (∀ a b, a < c → b < c → q a = q b → a = b) → c ≤ K
  | 0, c, q, h, _ => by
    rcases Nat.eq_zero_or_pos c with e | e
    · omega
    · exact absurd (h 0 e) (Nat.not_lt_zero _)
  | K + 1, c, q, h, hi => by
    rcases Nat.eq_zero_or_pos c with e | e
    · omega
    by_cases hx : ∃ a, a < c ∧ q a = K
    · obtain ⟨a, ha, hq⟩ := hx
      have := ph K (c - 1) (fun b => if b = a then q (c - 1) else q b) (by
        intro b hb
        by_cases e1 : b = a
        · rw [if_pos e1]
          have h1 := h (c - 1) (by omega)
          rcases Nat.lt_or_ge (q (c - 1)) K with z | z
          · exact z
          · have : c - 1 = a := hi (c - 1) a (by omega) ha (by omega)
            omega
        · rw [if_neg e1]
          have h1 := h b (by omega)
          rcases Nat.lt_or_ge (q b) K with z | z
          · exact z
          · exact absurd (hi b a (by omega) ha (by omega)) e1) (by
        intro b d hb hd
        by_cases e1 : b = a
        · rw [if_pos e1]
          by_cases e2 : d = a
          · intro _; omega
          · rw [if_neg e2]
            intro z
            have := hi (c - 1) d (by omega) (by omega) z
            omega
        · rw [if_neg e1]
          by_cases e2 : d = a
          · rw [if_pos e2]
            intro z
            have := hi b (c - 1) (by omega) (by omega) z
            omega
          · rw [if_neg e2]
            intro z
            exact hi b d (by omega) (by omega) z)
      omega
    · have := ph K c q (by
        intro a ha
        have h1 := h a ha
        rcases Nat.lt_or_ge (q a) K with z | z
        · exact z
        · exact absurd ⟨a, ha, by omega⟩ hx) hi
      omega
