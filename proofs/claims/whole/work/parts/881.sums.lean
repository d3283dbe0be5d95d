/-! SUMS over pairs of farms -/
abbrev Mx : Type := Nat → Nat → Bool
def row (M : Mx) (v : Nat) : Nat := cn (fun f => M v f) 10
def col (M : Mx) (f : Nat) : Nat := cn (fun v => M v f) 10
def tot (M : Mx) : Nat := sm (fun f => col M f) 10
def up (M : Mx) (v f : Nat) (b : Bool) : Mx := fun a c => if a = v ∧ c = f then b else M a c
theorem sm_congr {g h : Nat → Nat} : ∀ k, (∀ i, i < k → g i = h i) → sm g k = sm h k
  | 0, _ => rfl
  | k + 1, e => by
    show sm g k + g k = sm h k + h k
    rw [sm_congr k (fun i hi => e i (by omega)), e k (by omega)]
theorem sm_add (g h : Nat → Nat) : ∀ k, sm (fun i => g i + h i) k = sm g k + sm h k
  | 0 => rfl
  | k + 1 => by
    show sm (fun i => g i + h i) k + (g k + h k) = (sm g k + g k) + (sm h k + h k)
    rw [sm_add g h k]
    omega
theorem sm_le {g h : Nat → Nat} : ∀ k, (∀ i, i < k → g i ≤ h i) → sm g k ≤ sm h k
  | 0, _ => Nat.le_refl 0
  | k + 1, e => by
    have h1 := sm_le k (fun i hi => e i (by omega))
    have h2 := e k (by omega)
    show sm g k + g k ≤ sm h k + h k
    omega
theorem sm_lt {g h : Nat → Nat} : ∀ k, (∀ i, i < k → g i ≤ h i) → (∃ i, i < k ∧ g i < h i) → sm g k < sm h k
  | 0, _, ⟨i, hi, _⟩ => absurd hi (Nat.not_lt_zero i)
  | k + 1, e, ⟨i, hi, hl⟩ => by
    have h2 := e k (by omega)
    show sm g k + g k < sm h k + h k
    by_cases q : i = k
    · subst q
      have h1 := sm_le i (fun j hj => e j (by omega))
      omega
    · have h1 := sm_lt k (fun j hj => e j (by omega)) ⟨i, by omega, hl⟩
      omega
theorem cn_sm (g : Nat → Bool) : ∀ k, cn g k = sm (fun i => n1 (g i)) k
  | 0 => rfl
  | k + 1 => by
    show cn g k + n1 (g k) = _ + _
    rw [cn_sm g k]
theorem sm_0 : ∀ k, sm (fun _ => 0) k = 0
  | 0 => rfl
  | k + 1 => by
    show sm (fun _ => 0) k + 0 = 0
    rw [sm_0 k]
theorem sm_swap (g : Nat → Nat → Nat) (b : Nat) : ∀ a, sm (fun i => sm (fun j => g i j) b) a = sm (fun j => sm (fun i => g i j) a) b
  | 0 => (sm_0 b).symm
  | a + 1 => by
    show sm (fun i => sm (fun j => g i j) b) a + sm (fun j => g a j) b = sm (fun j => sm (fun i => g i j) a + g a j) b
    rw [sm_add, sm_swap g b a]
theorem tot_row (M : Mx) : tot M = sm (fun v => row M v) 10 := by
  unfold tot
  rw [sm_congr (g := fun f => col M f) (h := fun f => sm (fun v => n1 (M v f)) 10) 10 (fun f _ => cn_sm _ 10), sm_congr (g := fun v => row M v) (h := fun v => sm (fun f => n1 (M v f)) 10) 10 (fun v _ => cn_sm _ 10)]
  exact (sm_swap (fun v f => n1 (M v f)) 10 10).symm
theorem tot_5 {a b c d e : Mx} (h : ∀ v f, n1 (a v f) + n1 (b v f) = n1 (c v f) + n1 (d v f) + n1 (e v f)) : tot a + tot b = tot c + tot d + tot e := by
  have hc : ∀ f, col a f + col b f = col c f + col d f + col e f := by
    intro f
    unfold col
    rw [cn_sm, cn_sm, cn_sm, cn_sm, cn_sm, ← sm_add, ← sm_add, ← sm_add]
    exact sm_congr 10 (fun v _ => h v f)
  unfold tot
  rw [← sm_add, ← sm_add, ← sm_add]
  exact sm_congr 10 (fun f _ => hc f)
theorem tot_none {a : Mx} (h : ∀ v f, v < 10 → f < 10 → a v f = false) : tot a = 0 := by
  unfold tot
  rw [sm_congr (g := fun f => col a f) (h := fun _ => 0) 10 (fun f hf => cn_none 10 (fun v hv => h v f hv hf)), sm_0]
theorem n1_mono {a b : Bool} (h : a = true → b = true) : n1 a ≤ n1 b := by
  cases a
  · exact Nat.zero_le _
  · rw [h rfl]
    exact Nat.le_refl _
theorem tot_le {a b : Mx} (h : ∀ v f, v < 10 → f < 10 → a v f = true → b v f = true) : tot a ≤ tot b := by
  refine sm_le 10 (fun f hf => ?_)
  unfold col
  rw [cn_sm, cn_sm]
  exact sm_le 10 (fun v hv => n1_mono (h v f hv hf))
theorem tot_lt {a b : Mx} (h : ∀ v f, v < 10 → f < 10 → a v f = true → b v f = true) {v0 f0 : Nat} (hv : v0 < 10) (hf : f0 < 10) (ha : a v0 f0 = false) (hb : b v0 f0 = true) : tot a < tot b := by
  have hle : ∀ f, f < 10 → col a f ≤ col b f := by
    intro f hf
    unfold col
    rw [cn_sm, cn_sm]
    exact sm_le 10 (fun v hv => n1_mono (h v f hv hf))
  refine sm_lt 10 hle ⟨f0, hf, ?_⟩
  unfold col
  rw [cn_sm, cn_sm]
  refine sm_lt 10 (fun v hv => n1_mono (h v f0 hv hf)) ⟨v0, hv, ?_⟩
  rw [ha, hb]
  decide
theorem cn_and (g : Nat → Bool) (x : Bool) (k : Nat) : cn (fun i => g i && x) k = if x = true then cn g k else 0 := by
  cases x
  · rw [if_neg (by decide)]
    exact cn_none k (fun i _ => Bool.and_false _)
  · rw [if_pos rfl]
    exact cn_congr k (fun i _ => Bool.and_true _)
theorem tot_rows {a b : Mx} {x : Nat → Bool} (h : ∀ v, v < 10 → x v = true → row a v ≤ row b v) : tot (fun v f => a v f && x v) ≤ tot (fun v f => b v f && x v) := by
  rw [tot_row, tot_row]
  refine sm_le 10 (fun v hv => ?_)
  unfold row
  rw [cn_and (fun f => a v f), cn_and (fun f => b v f)]
  by_cases q : x v = true
  · rw [if_pos q, if_pos q]
    exact h v hv q
  · rw [if_neg q, if_neg q]
    exact Nat.le_refl _
theorem tot_cols {a b : Mx} {y : Nat → Bool} (h : ∀ f, f < 10 → y f = true → col a f ≤ col b f) : tot (fun v f => a v f && y f) ≤ tot (fun v f => b v f && y f) := by
  refine sm_le 10 (fun f hf => ?_)
  unfold col
  rw [cn_and (fun v => a v f), cn_and (fun v => b v f)]
  by_cases q : y f = true
  · rw [if_pos q, if_pos q]
    exact h f hf q
  · rw [if_neg q, if_neg q]
    exact Nat.le_refl _
/-- no more ways from the source: no plan has more -/
theorem L_max {A M M' : Mx} {X Y : Nat → Bool} (hA : ∀ v f, v < 10 → f < 10 → A v f = false → M' v f = M v f) (hX : ∀ v f, v < 10 → f < 10 → X v = true → Y f = false → A v f = true → M v f = true) (hY : ∀ v f, v < 10 → f < 10 → X v = false → Y f = true → A v f = true → M v f = false) (hr : ∀ v, v < 10 → X v = false → row M' v ≤ row M v) (hc : ∀ f, f < 10 → Y f = true → col M' f ≤ col M f) : tot M' ≤ tot M := by
  have id : ∀ m : Mx, tot m + tot (fun v f => m v f && (!X v && Y f)) = tot (fun v f => m v f && !X v) + tot (fun v f => m v f && Y f) + tot (fun v f => m v f && (X v && !Y f)) := by
    intro m
    refine tot_5 (fun v f => ?_)
    cases m v f <;> cases X v <;> cases Y f <;> rfl
  have i1 := id M
  have i2 := id M'
  have l1 : tot (fun v f => M' v f && (X v && !Y f)) ≤ tot (fun v f => M v f && (X v && !Y f)) := by
    refine tot_le (fun v f hv hf q => ?_)
    cases hx : X v <;> cases hy : Y f <;> rw [hx, hy] at q <;> simp at q ⊢
    cases ha : A v f
    · rw [← hA v f hv hf ha]; exact q
    · exact hX v f hv hf hx hy ha
  have l2 : tot (fun v f => M v f && (!X v && Y f)) ≤ tot (fun v f => M' v f && (!X v && Y f)) := by
    refine tot_le (fun v f hv hf q => ?_)
    cases hx : X v <;> cases hy : Y f <;> rw [hx, hy] at q <;> simp at q ⊢
    cases ha : A v f
    · rw [hA v f hv hf ha]; exact q
    · rw [hY v f hv hf hx hy ha] at q
      cases q
  have l3 : tot (fun v f => M' v f && !X v) ≤ tot (fun v f => M v f && !X v) := tot_rows (x := fun v => !X v) (fun v hv q => hr v hv (by simpa using q))
  have l4 : tot (fun v f => M' v f && Y f) ≤ tot (fun v f => M v f && Y f) := tot_cols hc
  omega
/-- no way back from the farm to the visitor: the pair costs a visit -/
theorem L_cyc {A M M' : Mx} {X Y : Nat → Bool} {so si : Bool} {v0 f0 : Nat} (hv0 : v0 < 10) (hf0 : f0 < 10) (x0 : X v0 = false) (y0 : Y f0 = true) (m0 : M v0 f0 = false) (m1 : M' v0 f0 = true) (ht : tot M' = tot M) (hA : ∀ v f, v < 10 → f < 10 → A v f = false → M' v f = M v f) (hX : ∀ v f, v < 10 → f < 10 → X v = true → Y f = false → A v f = true → M v f = true) (hY : ∀ v f, v < 10 → f < 10 → X v = false → Y f = true → A v f = true → M v f = false) (h1 : so = false → ∀ v, v < 10 → X v = true → row M v ≤ row M' v) (h2 : so = true → ∀ v, v < 10 → X v = false → row M' v ≤ row M v) (h3 : si = false → ∀ f, f < 10 → Y f = true → col M' f ≤ col M f) (h4 : si = true → ∀ f, f < 10 → Y f = false → col M f ≤ col M' f) : False := by
  have id : ∀ m : Mx, tot (fun v f => m v f && X v) + tot (fun v f => m v f && (!X v && Y f)) = tot (fun v f => m v f && Y f) + tot (fun v f => m v f && (X v && !Y f)) + tot (fun _ _ => false) := by
    intro m
    refine tot_5 (fun v f => ?_)
    cases m v f <;> cases X v <;> cases Y f <;> rfl
  have idx : ∀ m : Mx, tot m + tot (fun _ _ => false) = tot (fun v f => m v f && X v) + tot (fun v f => m v f && !X v) + tot (fun _ _ => false) := by
    intro m
    refine tot_5 (fun v f => ?_)
    cases m v f <;> cases X v <;> rfl
  have idy : ∀ m : Mx, tot m + tot (fun _ _ => false) = tot (fun v f => m v f && Y f) + tot (fun v f => m v f && !Y f) + tot (fun _ _ => false) := by
    intro m
    refine tot_5 (fun v f => ?_)
    cases m v f <;> cases Y f <;> rfl
  have i1 := id M
  have i2 := id M'
  have j1 := idx M
  have j2 := idx M'
  have k1 := idy M
  have k2 := idy M'
  have z := tot_none (a := fun _ _ => false) (fun _ _ _ _ => rfl)
  have l1 : tot (fun v f => M' v f && (X v && !Y f)) ≤ tot (fun v f => M v f && (X v && !Y f)) := by
    refine tot_le (fun v f hv hf q => ?_)
    cases hx : X v <;> cases hy : Y f <;> rw [hx, hy] at q <;> simp at q ⊢
    cases ha : A v f
    · rw [← hA v f hv hf ha]; exact q
    · exact hX v f hv hf hx hy ha
  have l2 : tot (fun v f => M v f && (!X v && Y f)) < tot (fun v f => M' v f && (!X v && Y f)) := by
    refine tot_lt (fun v f hv hf q => ?_) hv0 hf0 (by rw [m0]; rfl) (by rw [m1, x0, y0]; rfl)
    cases hx : X v <;> cases hy : Y f <;> rw [hx, hy] at q <;> simp at q ⊢
    cases ha : A v f
    · rw [hA v f hv hf ha]; exact q
    · rw [hY v f hv hf hx hy ha] at q
      cases q
  cases hso : so
  · have r1 := tot_rows (x := X) (h1 hso)
    cases hsi : si
    · have r2 := tot_cols (y := Y) (h3 hsi)
      omega
    · have r2 := tot_cols (a := M) (b := M') (y := fun f => !Y f) (fun f hf q => h4 hsi f hf (by simpa using q))
      omega
  · have r1 := tot_rows (a := M') (b := M) (x := fun v => !X v) (fun v hv q => h2 hso v hv (by simpa using q))
    cases hsi : si
    · have r2 := tot_cols (y := Y) (h3 hsi)
      omega
    · have r2 := tot_cols (a := M) (b := M') (y := fun f => !Y f) (fun f hf q => h4 hsi f hf (by simpa using q))
      omega
theorem cn_put (g : Nat → Bool) (j : Nat) (b : Bool) : ∀ k, j < k → cn (fun i => if i = j then b else g i) k + n1 (g j) = cn g k + n1 b
  | 0, h => absurd h (Nat.not_lt_zero j)
  | k + 1, h => by
    show (cn (fun i => if i = j then b else g i) k + n1 (if k = j then b else g k)) + n1 (g j) = (cn g k + n1 (g k)) + n1 b
    by_cases q : k = j
    · subst q
      rw [if_pos rfl, cn_congr (g' := g) k (fun i hi => if_neg (by omega))]
      omega
    · rw [if_neg q]
      have := cn_put g j b k (by omega)
      omega
theorem row_up (M : Mx) {v f : Nat} (hf : f < 10) (b : Bool) : row (up M v f b) v + n1 (M v f) = row M v + n1 b := by
  unfold row
  rw [← cn_put (fun c => M v c) f b 10 hf]
  congr 1
  refine cn_congr 10 (fun i _ => ?_)
  unfold up
  by_cases q : i = f
  · rw [if_pos ⟨rfl, q⟩, if_pos q]
  · rw [if_neg (fun z => q z.2), if_neg q]
theorem row_up' (M : Mx) {v v' f : Nat} (h : v' ≠ v) (b : Bool) : row (up M v f b) v' = row M v' := cn_congr 10 (fun _ _ => if_neg (fun z => h z.1))
theorem col_up (M : Mx) {v f : Nat} (hv : v < 10) (b : Bool) : col (up M v f b) f + n1 (M v f) = col M f + n1 b := by
  unfold col
  rw [← cn_put (fun c => M c f) v b 10 hv]
  congr 1
  refine cn_congr 10 (fun i _ => ?_)
  unfold up
  by_cases q : i = v
  · rw [if_pos ⟨q, rfl⟩, if_pos q]
  · rw [if_neg (fun z => q z.1), if_neg q]
theorem col_up' (M : Mx) {v f f' : Nat} (h : f' ≠ f) (b : Bool) : col (up M v f b) f' = col M f' := cn_congr 10 (fun _ _ => if_neg (fun z => h z.2))
theorem sm_put {g h : Nat → Nat} (j : Nat) (e : ∀ i, i ≠ j → g i = h i) : ∀ k, j < k → sm g k + h j = sm h k + g j
  | 0, hj => absurd hj (Nat.not_lt_zero j)
  | k + 1, hj => by
    show (sm g k + g k) + h j = (sm h k + h k) + g j
    by_cases q : k = j
    · subst q
      rw [sm_congr (h := h) k (fun i hi => e i (by omega))]
      omega
    · rw [e k q]
      have := sm_put j e k (by omega)
      omega
theorem tot_up (M : Mx) {v f : Nat} (hv : v < 10) (hf : f < 10) (b : Bool) : tot (up M v f b) + n1 (M v f) = tot M + n1 b := by
  have h1 := sm_put (g := fun f => col (up M v f b) f) (h := fun f => col M f) f
  have h2 := sm_put (g := fun c => col (up M v f b) c) (h := fun c => col M c) f (fun i hi => col_up' M hi b) 10 hf
  have h3 := col_up M (f := f) hv b
  unfold tot
  omega
theorem up_s (M : Mx) (v f : Nat) (b : Bool) : up M v f b v f = b := if_pos ⟨rfl, rfl⟩
theorem up_n (M : Mx) {v f a c : Nat} (b : Bool) (h : ¬ (a = v ∧ c = f)) : up M v f b a c = M a c := if_neg h
theorem row_le (M : Mx) (v : Nat) : row M v ≤ 10 := cn_le _ 10
theorem col_le (M : Mx) (f : Nat) : col M f ≤ 10 := cn_le _ 10
theorem sm_b {g : Nat → Nat} {c : Nat} (h : ∀ i, g i ≤ c) : ∀ k, sm g k ≤ c * k
  | 0 => Nat.le_refl _
  | k + 1 => by
    have := sm_b h k
    have := h k
    show sm g k + g k ≤ c * (k + 1)
    rw [Nat.mul_succ]
    omega
theorem tot_100 (M : Mx) : tot M ≤ 100 := sm_b (c := 10) (fun f => col_le M f) 10
