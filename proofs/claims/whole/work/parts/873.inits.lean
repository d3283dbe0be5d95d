/-! FILLS, and the state at first -/
theorem uA_uA (σ : St_) (k : Nat) (f g : Nat → Int32) : uA (uA σ k f) k g = uA σ k g := by
  unfold uA
  refine congrArg (fun z => (σ.1, z, σ.2.2)) ?_
  funext j
  by_cases q : j = k
  · rw [if_pos q, if_pos q]
  · rw [if_neg q, if_neg q]
    exact if_neg q
theorem fill_gen (g : Nat → Int32 → St_ → Option St_) (k L N : Nat) (v : Int32) (hL : L < 2 ^ 31) (hN : N ≤ L) (hg : ∀ n x2 σ, g (n + 1) x2 σ = (if nI N ≤ x2 then some σ else gd_ x2 L fun j1 => g n (x2 + 1) (uM σ k j1 v))) : ∀ d n a σ, N = a + d → d < n → g n (nI a) σ = some (uA σ k (fun j => if a ≤ j ∧ j < N then v else sM σ k j))
  | 0, 0, _, _, _, h => absurd h (by decide)
  | 0, n + 1, a, σ, e, _ => by
    rw [hg, if_pos (nI_le (by omega) (by omega))]
    rw [show (fun j => if a ≤ j ∧ j < N then v else sM σ k j) = sM σ k from by
      funext j
      exact if_neg (by omega), uA_self]
  | d + 1, 0, _, _, _, h => absurd h (by omega)
  | d + 1, n + 1, a, σ, e, h => by
    rw [hg, if_neg (nI_ge (by omega) (by omega)), gd_s (by omega) hL, nI_1, fill_gen g k L N v hL hN hg d n (a + 1) _ (by omega) (by omega)]
    unfold uM
    rw [uA_uA, sM_A]
    refine congrArg (fun z => some (uA σ k z)) ?_
    funext j
    by_cases q : a + 1 ≤ j ∧ j < N
    · rw [if_pos q, if_pos (by omega)]
    · rw [if_neg q]
      by_cases qa : j = a
      · subst qa
        rw [upd_s, if_pos (by omega)]
      · rw [upd_n _ _ qa, if_neg (by omega)]
theorem initX_s : fJ7_fill_53178_q11 1 sXi = some (uA sXi 11 (fun j => if 0 ≤ j ∧ j < 8 then 1 else sM sXi 11 j)) :=
  fill_gen (fun n x2 σ => fJ7_fill_53178_q11_5 n 1 x2 (nI 8) σ) 11 8 8 1 (by decide) (by decide) (fun _ _ _ => rfl) 8 FU_ 0 sXi rfl (by decide)
theorem T_initX : ∃ rx, fJ7_fill_53178_q11 1 sXi = some rx := ⟨_, initX_s⟩
def sM1 : St_ := uM (uM (uM (uM (uM (uM sMi 5 0 3) 5 1 3) 5 2 3) 5 3 9) 5 4 2) 5 5 60
theorem asAtFirst5 : fX6_asAtFirst_q5 sMi = some sM1 := by
  unfold fX6_asAtFirst_q5
  rw [show (0 : Int32) = nI 0 from rfl, gd_s (by decide) (by decide), show (1 : Int32) = nI 1 from rfl, gd_s (by decide) (by decide), show (2 : Int32) = nI 2 from rfl, gd_s (by decide) (by decide), show (3 : Int32) = nI 3 from rfl, gd_s (by decide) (by decide), show (4 : Int32) = nI 4 from rfl, gd_s (by decide) (by decide), show (5 : Int32) = nI 5 from rfl, gd_s (by decide) (by decide)]
  rfl
theorem initM_s : fX6_initT sMi = some (uA sM1 9 (fun j => if 0 ≤ j ∧ j < 8 then 1 else sM sM1 9 j)) := by
  unfold fX6_initT
  rw [asAtFirst5, bn_s]
  exact fill_gen (fun n x2 σ => fX6_initT_213 n x2 σ) 9 8 8 1 (by decide) (by decide) (fun _ _ _ => rfl) 8 FU_ 0 sM1 rfl (by decide)
theorem tt0 (b : Bool) : ¬ (tt 0 && b) = true := fun q => by cases q
theorem T_initM {rx : St_} (h : fJ7_fill_53178_q11 1 sXi = some rx) : ∃ rm, fX6_initT sMi = some rm ∧ Inv_ rx rm := by
  rw [initX_s] at h
  cases h
  refine ⟨_, initM_s, ?_⟩
  refine ⟨⟨by decide, rfl, rfl⟩, ⟨0, by decide, rfl, rfl⟩, ⟨Or.inl rfl, rfl⟩, ⟨0, by decide, rfl, rfl, fun j hj => absurd hj (Nat.not_lt_zero j)⟩, ⟨?_, 3, 3, by decide, by decide, rfl, rfl⟩, fun i hi => absurd hi (Nat.not_lt_zero i), fun i _ _ => ⟨rfl, rfl, rfl, rfl, rfl, rfl⟩, ?_, ?_, ?_, ?_, ?_, ?_⟩
  · show ∀ j, j < 6 → va_cpy (fun j => lsA.getD j 0) (fun _ => 0) 0 0 6 j = upd (upd (upd (upd (upd (upd (fun _ => 0) 0 3) 1 3) 2 3) 3 9) 4 2) 5 60 j
    decide +kernel
  · intro a b _ _
    exact ⟨Or.inl rfl, b_0 b⟩
  · intro p hp
    show (if 0 ≤ p ∧ p < 8 then (1 : Int32) else _) = (if 0 ≤ p ∧ p < 8 then (1 : Int32) else _)
    rw [if_pos (by omega), if_pos (by omega)]
  · intro f _
    exact ⟨fun i _ => b_0 i, fun v _ => b_0 v⟩
  · intro v f _ _
    exact ⟨Or.inl rfl, fun q => absurd q (tt0 _)⟩
  · intro v f _ _
    exact ⟨Or.inl rfl, b_0 v⟩
  · intro v f _ _
    refine ⟨?_, fun q => absurd q (tt0 _)⟩
    show _ = (if (tt 0 && _) = true then _ else (0 : Int32))
    rw [if_neg (tt0 _), sM_N _ _ (by omega)]
    show (if 12 + f = 1 then _ else fun _ => 0 : Nat → Int32) v = 0
    rw [if_neg (by omega)]
