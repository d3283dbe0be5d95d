/-! J7_fill_53178_q3 -/
abbrev rmJ7_fill_53178_q3 : Room := { frames := 0, cells := 0, slots := 0, locals := 0 }
def fJ7_fill_53178_q3_5 : Nat → Int32 → Int32 → Int32 → St_ → Option St_
  | 0, _, _, _, _ => none
  | n + 1, x1, x2, x3, σ => (if x3 ≤ x2 then some σ else (gd_ x2 10 fun j1 => fJ7_fill_53178_q3_5  n x1 (x2 + 1) x3 (uM σ 3 j1 x1)))
def fJ7_fill_53178_q3 (x1 : Int32) (σ : St_) : Option St_ := fJ7_fill_53178_q3_5  FU_ x1 0 10 σ
set_option maxHeartbeats 4000000 in
set_option maxRecDepth 20000 in
theorem vJ7_fill_53178_q3_5 {p : Program} {l : Launch} {e : Env} {s : State} {m : MethodId} {args : Array Value} {below : List Frame} {meth : Method} {c : Code} {D : va_G} {A : Nat → Prop} {Q : State → Prop} {cy : Nat → ClassId} {ad fad : Nat → Nat} {res : St_} (C : vv_X p s m args meth c D (tysW cy) A 4 cJ7_fill_53178 RJ7 wsJ7_fill_53178) (h0 : eX A s) (hr : rt_V p l e rmJ7_fill_53178_q3 s m args below meth c D A 4 Q cJ7_fill_53178 (wX cy ad fad res)) : ∀ (n : Nat) (x1 : Int32) (x2 : Int32) (x3 : Int32) (σ : St_), fJ7_fill_53178_q3_5  n x1 x2 x3 σ = some res → vv_ p l e rmJ7_fill_53178_q3 s m args below meth c D A 4 Q 0 0 (wX cy ad fad σ) [(0, .ref (ad 3)), (1, .int x1), (2, .int x2), (3, .int x3)] 5 [] := by
  intro n
  induction n with
  | zero =>
    intro x1 x2 x3 σ hF
    cases (show none = some res from hF)
  | succ n ih =>
    intro x1 x2 x3 σ hF
    replace hF : ((if x3 ≤ x2 then some σ else (gd_ x2 10 fun j1 => fJ7_fill_53178_q3_5  n x1 (x2 + 1) x3 (uM σ 3 j1 x1))) : Option St_) = some res := hF
    refine vv_iload_n C dJ7_fill_53178_5 2 rfl ?_
    refine vv_iload_n C dJ7_fill_53178_6 3 rfl ?_
    refine vv_icmp_ge (tgt := 20) C dJ7_fill_53178_7 (by decide) hF (fun c2 hF => ?_) (fun c2 hF => ?_)
    · cases hF
      exact hr _ _ dJ7_fill_53178_20
    · refine vv_aload_n C dJ7_fill_53178_10 0 rfl ?_
      refine vv_iload_n C dJ7_fill_53178_11 2 rfl ?_
      refine vv_iload_n C dJ7_fill_53178_12 1 rfl ?_
      refine vv_iast (w' := fun j1 => (wX cy ad fad (uM σ 3 j1 x1))) C 3 0 (wX_g3 cy ad fad _) (tysW_0 cy) hF dJ7_fill_53178_13 (fun _ => wX_a3 _ _ _ _ _) (fun j1 hj1 hF => ?_)
      refine vv_iinc (q := 2) (v := x2 + 1) (lv' := [(2, .int (x2 + 1)), (0, .ref (ad 3)), (1, .int x1), (3, .int x3)]) C dJ7_fill_53178_14 rfl rfl (by decide) rfl ?_
      refine vv_goto (tgt := 5) C dJ7_fill_53178_17 (by decide) ?_
      refine vv_lv [1, 2, 0, 3] rfl ?_
      exact ih x1 (x2 + 1) x3 (uM σ 3 j1 x1)  hF
set_option maxHeartbeats 4000000 in
set_option maxRecDepth 20000 in
theorem kJ7_fill_53178_q3 (l : Launch) (D : va_G) (cy : Nat → ClassId) (ad fad : Nat → Nat) (x1 : Int32) (σ : St_) (res : St_)  (hF : fJ7_fill_53178_q3 x1 σ = some res) : ct_V l D (tysW cy) eX yJ7_fill_53178 wsJ7_fill_53178 rmJ7_fill_53178_q3 [.ref (ad 3), .int x1] (wX cy ad fad σ) (wX cy ad fad res) := by
  refine mt_V (by decide) rfl (Nat.le_of_ble_eq_true rfl) ?_
  intro p e s m args below meth c A Q C h0 hr
  replace C : vv_X p s m args meth c D (tysW cy) A 4 cJ7_fill_53178 RJ7 wsJ7_fill_53178 := C
  replace hF : (fJ7_fill_53178_q3_5  FU_ x1 0 10 σ : Option St_) = some res := hF
  refine vv_lv [0, 1] (lv' := [(0, .ref (ad 3)), (1, .int x1)]) rfl ?_
  refine vv_iconst (v := 0) C dJ7_fill_53178_0 (by decide) ?_
  refine vv_istore_n (lv' := [(2, .int 0), (0, .ref (ad 3)), (1, .int x1)]) C dJ7_fill_53178_1 (by decide) rfl ?_
  refine vv_aload_n C dJ7_fill_53178_2 1 rfl ?_
  refine vv_alen (v := 10) C 3 0 (wX_g3 cy ad fad _) (tysW_0 cy) rfl dJ7_fill_53178_3 ?_
  refine vv_istore_n (lv' := [(3, .int 10), (2, .int 0), (0, .ref (ad 3)), (1, .int x1)]) C dJ7_fill_53178_4 (by decide) rfl ?_
  refine vv_lv [2, 3, 1, 0] rfl ?_
  exact vJ7_fill_53178_q3_5 C h0 hr  FU_ x1 0 10 σ  hF
/-! J7_fill_53178_q5 -/
abbrev rmJ7_fill_53178_q5 : Room := { frames := 0, cells := 0, slots := 0, locals := 0 }
def fJ7_fill_53178_q5_5 : Nat → Int32 → Int32 → Int32 → St_ → Option St_
  | 0, _, _, _, _ => none
  | n + 1, x1, x2, x3, σ => (if x3 ≤ x2 then some σ else (gd_ x2 22 fun j1 => fJ7_fill_53178_q5_5  n x1 (x2 + 1) x3 (uM σ 5 j1 x1)))
def fJ7_fill_53178_q5 (x1 : Int32) (σ : St_) : Option St_ := fJ7_fill_53178_q5_5  FU_ x1 0 22 σ
set_option maxHeartbeats 4000000 in
set_option maxRecDepth 20000 in
theorem vJ7_fill_53178_q5_5 {p : Program} {l : Launch} {e : Env} {s : State} {m : MethodId} {args : Array Value} {below : List Frame} {meth : Method} {c : Code} {D : va_G} {A : Nat → Prop} {Q : State → Prop} {cy : Nat → ClassId} {ad fad : Nat → Nat} {res : St_} (C : vv_X p s m args meth c D (tysW cy) A 4 cJ7_fill_53178 RJ7 wsJ7_fill_53178) (h0 : eX A s) (hr : rt_V p l e rmJ7_fill_53178_q5 s m args below meth c D A 4 Q cJ7_fill_53178 (wX cy ad fad res)) : ∀ (n : Nat) (x1 : Int32) (x2 : Int32) (x3 : Int32) (σ : St_), fJ7_fill_53178_q5_5  n x1 x2 x3 σ = some res → vv_ p l e rmJ7_fill_53178_q5 s m args below meth c D A 4 Q 0 0 (wX cy ad fad σ) [(0, .ref (ad 5)), (1, .int x1), (2, .int x2), (3, .int x3)] 5 [] := by
  intro n
  induction n with
  | zero =>
    intro x1 x2 x3 σ hF
    cases (show none = some res from hF)
  | succ n ih =>
    intro x1 x2 x3 σ hF
    replace hF : ((if x3 ≤ x2 then some σ else (gd_ x2 22 fun j1 => fJ7_fill_53178_q5_5  n x1 (x2 + 1) x3 (uM σ 5 j1 x1))) : Option St_) = some res := hF
    refine vv_iload_n C dJ7_fill_53178_5 2 rfl ?_
    refine vv_iload_n C dJ7_fill_53178_6 3 rfl ?_
    refine vv_icmp_ge (tgt := 20) C dJ7_fill_53178_7 (by decide) hF (fun c2 hF => ?_) (fun c2 hF => ?_)
    · cases hF
      exact hr _ _ dJ7_fill_53178_20
    · refine vv_aload_n C dJ7_fill_53178_10 0 rfl ?_
      refine vv_iload_n C dJ7_fill_53178_11 2 rfl ?_
      refine vv_iload_n C dJ7_fill_53178_12 1 rfl ?_
      refine vv_iast (w' := fun j1 => (wX cy ad fad (uM σ 5 j1 x1))) C 5 0 (wX_g5 cy ad fad _) (tysW_0 cy) hF dJ7_fill_53178_13 (fun _ => wX_a5 _ _ _ _ _) (fun j1 hj1 hF => ?_)
      refine vv_iinc (q := 2) (v := x2 + 1) (lv' := [(2, .int (x2 + 1)), (0, .ref (ad 5)), (1, .int x1), (3, .int x3)]) C dJ7_fill_53178_14 rfl rfl (by decide) rfl ?_
      refine vv_goto (tgt := 5) C dJ7_fill_53178_17 (by decide) ?_
      refine vv_lv [1, 2, 0, 3] rfl ?_
      exact ih x1 (x2 + 1) x3 (uM σ 5 j1 x1)  hF
set_option maxHeartbeats 4000000 in
set_option maxRecDepth 20000 in
theorem kJ7_fill_53178_q5 (l : Launch) (D : va_G) (cy : Nat → ClassId) (ad fad : Nat → Nat) (x1 : Int32) (σ : St_) (res : St_)  (hF : fJ7_fill_53178_q5 x1 σ = some res) : ct_V l D (tysW cy) eX yJ7_fill_53178 wsJ7_fill_53178 rmJ7_fill_53178_q5 [.ref (ad 5), .int x1] (wX cy ad fad σ) (wX cy ad fad res) := by
  refine mt_V (by decide) rfl (Nat.le_of_ble_eq_true rfl) ?_
  intro p e s m args below meth c A Q C h0 hr
  replace C : vv_X p s m args meth c D (tysW cy) A 4 cJ7_fill_53178 RJ7 wsJ7_fill_53178 := C
  replace hF : (fJ7_fill_53178_q5_5  FU_ x1 0 22 σ : Option St_) = some res := hF
  refine vv_lv [0, 1] (lv' := [(0, .ref (ad 5)), (1, .int x1)]) rfl ?_
  refine vv_iconst (v := 0) C dJ7_fill_53178_0 (by decide) ?_
  refine vv_istore_n (lv' := [(2, .int 0), (0, .ref (ad 5)), (1, .int x1)]) C dJ7_fill_53178_1 (by decide) rfl ?_
  refine vv_aload_n C dJ7_fill_53178_2 1 rfl ?_
  refine vv_alen (v := 22) C 5 0 (wX_g5 cy ad fad _) (tysW_0 cy) rfl dJ7_fill_53178_3 ?_
  refine vv_istore_n (lv' := [(3, .int 22), (2, .int 0), (0, .ref (ad 5)), (1, .int x1)]) C dJ7_fill_53178_4 (by decide) rfl ?_
  refine vv_lv [2, 3, 1, 0] rfl ?_
  exact vJ7_fill_53178_q5_5 C h0 hr  FU_ x1 0 22 σ  hF
/-! J7_fill_53178_q8 -/
abbrev rmJ7_fill_53178_q8 : Room := { frames := 0, cells := 0, slots := 0, locals := 0 }
def fJ7_fill_53178_q8_5 : Nat → Int32 → Int32 → Int32 → St_ → Option St_
  | 0, _, _, _, _ => none
  | n + 1, x1, x2, x3, σ => (if x3 ≤ x2 then some σ else (gd_ x2 10 fun j1 => fJ7_fill_53178_q8_5  n x1 (x2 + 1) x3 (uM σ 8 j1 x1)))
def fJ7_fill_53178_q8 (x1 : Int32) (σ : St_) : Option St_ := fJ7_fill_53178_q8_5  FU_ x1 0 10 σ
set_option maxHeartbeats 4000000 in
set_option maxRecDepth 20000 in
theorem vJ7_fill_53178_q8_5 {p : Program} {l : Launch} {e : Env} {s : State} {m : MethodId} {args : Array Value} {below : List Frame} {meth : Method} {c : Code} {D : va_G} {A : Nat → Prop} {Q : State → Prop} {cy : Nat → ClassId} {ad fad : Nat → Nat} {res : St_} (C : vv_X p s m args meth c D (tysW cy) A 4 cJ7_fill_53178 RJ7 wsJ7_fill_53178) (h0 : eX A s) (hr : rt_V p l e rmJ7_fill_53178_q8 s m args below meth c D A 4 Q cJ7_fill_53178 (wX cy ad fad res)) : ∀ (n : Nat) (x1 : Int32) (x2 : Int32) (x3 : Int32) (σ : St_), fJ7_fill_53178_q8_5  n x1 x2 x3 σ = some res → vv_ p l e rmJ7_fill_53178_q8 s m args below meth c D A 4 Q 0 0 (wX cy ad fad σ) [(0, .ref (ad 8)), (1, .int x1), (2, .int x2), (3, .int x3)] 5 [] := by
  intro n
  induction n with
  | zero =>
    intro x1 x2 x3 σ hF
    cases (show none = some res from hF)
  | succ n ih =>
    intro x1 x2 x3 σ hF
    replace hF : ((if x3 ≤ x2 then some σ else (gd_ x2 10 fun j1 => fJ7_fill_53178_q8_5  n x1 (x2 + 1) x3 (uM σ 8 j1 x1))) : Option St_) = some res := hF
    refine vv_iload_n C dJ7_fill_53178_5 2 rfl ?_
    refine vv_iload_n C dJ7_fill_53178_6 3 rfl ?_
    refine vv_icmp_ge (tgt := 20) C dJ7_fill_53178_7 (by decide) hF (fun c2 hF => ?_) (fun c2 hF => ?_)
    · cases hF
      exact hr _ _ dJ7_fill_53178_20
    · refine vv_aload_n C dJ7_fill_53178_10 0 rfl ?_
      refine vv_iload_n C dJ7_fill_53178_11 2 rfl ?_
      refine vv_iload_n C dJ7_fill_53178_12 1 rfl ?_
      refine vv_iast (w' := fun j1 => (wX cy ad fad (uM σ 8 j1 x1))) C 8 0 (wX_g8 cy ad fad _) (tysW_0 cy) hF dJ7_fill_53178_13 (fun _ => wX_a8 _ _ _ _ _) (fun j1 hj1 hF => ?_)
      refine vv_iinc (q := 2) (v := x2 + 1) (lv' := [(2, .int (x2 + 1)), (0, .ref (ad 8)), (1, .int x1), (3, .int x3)]) C dJ7_fill_53178_14 rfl rfl (by decide) rfl ?_
      refine vv_goto (tgt := 5) C dJ7_fill_53178_17 (by decide) ?_
      refine vv_lv [1, 2, 0, 3] rfl ?_
      exact ih x1 (x2 + 1) x3 (uM σ 8 j1 x1)  hF
set_option maxHeartbeats 4000000 in
set_option maxRecDepth 20000 in
theorem kJ7_fill_53178_q8 (l : Launch) (D : va_G) (cy : Nat → ClassId) (ad fad : Nat → Nat) (x1 : Int32) (σ : St_) (res : St_)  (hF : fJ7_fill_53178_q8 x1 σ = some res) : ct_V l D (tysW cy) eX yJ7_fill_53178 wsJ7_fill_53178 rmJ7_fill_53178_q8 [.ref (ad 8), .int x1] (wX cy ad fad σ) (wX cy ad fad res) := by
  refine mt_V (by decide) rfl (Nat.le_of_ble_eq_true rfl) ?_
  intro p e s m args below meth c A Q C h0 hr
  replace C : vv_X p s m args meth c D (tysW cy) A 4 cJ7_fill_53178 RJ7 wsJ7_fill_53178 := C
  replace hF : (fJ7_fill_53178_q8_5  FU_ x1 0 10 σ : Option St_) = some res := hF
  refine vv_lv [0, 1] (lv' := [(0, .ref (ad 8)), (1, .int x1)]) rfl ?_
  refine vv_iconst (v := 0) C dJ7_fill_53178_0 (by decide) ?_
  refine vv_istore_n (lv' := [(2, .int 0), (0, .ref (ad 8)), (1, .int x1)]) C dJ7_fill_53178_1 (by decide) rfl ?_
  refine vv_aload_n C dJ7_fill_53178_2 1 rfl ?_
  refine vv_alen (v := 10) C 8 0 (wX_g8 cy ad fad _) (tysW_0 cy) rfl dJ7_fill_53178_3 ?_
  refine vv_istore_n (lv' := [(3, .int 10), (2, .int 0), (0, .ref (ad 8)), (1, .int x1)]) C dJ7_fill_53178_4 (by decide) rfl ?_
  refine vv_lv [2, 3, 1, 0] rfl ?_
  exact vJ7_fill_53178_q8_5 C h0 hr  FU_ x1 0 10 σ  hF
/-! J7_fill_53178_q9 -/
abbrev rmJ7_fill_53178_q9 : Room := { frames := 0, cells := 0, slots := 0, locals := 0 }
def fJ7_fill_53178_q9_5 : Nat → Int32 → Int32 → Int32 → St_ → Option St_
  | 0, _, _, _, _ => none
  | n + 1, x1, x2, x3, σ => (if x3 ≤ x2 then some σ else (gd_ x2 10 fun j1 => fJ7_fill_53178_q9_5  n x1 (x2 + 1) x3 (uM σ 9 j1 x1)))
def fJ7_fill_53178_q9 (x1 : Int32) (σ : St_) : Option St_ := fJ7_fill_53178_q9_5  FU_ x1 0 10 σ
set_option maxHeartbeats 4000000 in
set_option maxRecDepth 20000 in
theorem vJ7_fill_53178_q9_5 {p : Program} {l : Launch} {e : Env} {s : State} {m : MethodId} {args : Array Value} {below : List Frame} {meth : Method} {c : Code} {D : va_G} {A : Nat → Prop} {Q : State → Prop} {cy : Nat → ClassId} {ad fad : Nat → Nat} {res : St_} (C : vv_X p s m args meth c D (tysW cy) A 4 cJ7_fill_53178 RJ7 wsJ7_fill_53178) (h0 : eX A s) (hr : rt_V p l e rmJ7_fill_53178_q9 s m args below meth c D A 4 Q cJ7_fill_53178 (wX cy ad fad res)) : ∀ (n : Nat) (x1 : Int32) (x2 : Int32) (x3 : Int32) (σ : St_), fJ7_fill_53178_q9_5  n x1 x2 x3 σ = some res → vv_ p l e rmJ7_fill_53178_q9 s m args below meth c D A 4 Q 0 0 (wX cy ad fad σ) [(0, .ref (ad 9)), (1, .int x1), (2, .int x2), (3, .int x3)] 5 [] := by
  intro n
  induction n with
  | zero =>
    intro x1 x2 x3 σ hF
    cases (show none = some res from hF)
  | succ n ih =>
    intro x1 x2 x3 σ hF
    replace hF : ((if x3 ≤ x2 then some σ else (gd_ x2 10 fun j1 => fJ7_fill_53178_q9_5  n x1 (x2 + 1) x3 (uM σ 9 j1 x1))) : Option St_) = some res := hF
    refine vv_iload_n C dJ7_fill_53178_5 2 rfl ?_
    refine vv_iload_n C dJ7_fill_53178_6 3 rfl ?_
    refine vv_icmp_ge (tgt := 20) C dJ7_fill_53178_7 (by decide) hF (fun c2 hF => ?_) (fun c2 hF => ?_)
    · cases hF
      exact hr _ _ dJ7_fill_53178_20
    · refine vv_aload_n C dJ7_fill_53178_10 0 rfl ?_
      refine vv_iload_n C dJ7_fill_53178_11 2 rfl ?_
      refine vv_iload_n C dJ7_fill_53178_12 1 rfl ?_
      refine vv_iast (w' := fun j1 => (wX cy ad fad (uM σ 9 j1 x1))) C 9 0 (wX_g9 cy ad fad _) (tysW_0 cy) hF dJ7_fill_53178_13 (fun _ => wX_a9 _ _ _ _ _) (fun j1 hj1 hF => ?_)
      refine vv_iinc (q := 2) (v := x2 + 1) (lv' := [(2, .int (x2 + 1)), (0, .ref (ad 9)), (1, .int x1), (3, .int x3)]) C dJ7_fill_53178_14 rfl rfl (by decide) rfl ?_
      refine vv_goto (tgt := 5) C dJ7_fill_53178_17 (by decide) ?_
      refine vv_lv [1, 2, 0, 3] rfl ?_
      exact ih x1 (x2 + 1) x3 (uM σ 9 j1 x1)  hF
set_option maxHeartbeats 4000000 in
set_option maxRecDepth 20000 in
theorem kJ7_fill_53178_q9 (l : Launch) (D : va_G) (cy : Nat → ClassId) (ad fad : Nat → Nat) (x1 : Int32) (σ : St_) (res : St_)  (hF : fJ7_fill_53178_q9 x1 σ = some res) : ct_V l D (tysW cy) eX yJ7_fill_53178 wsJ7_fill_53178 rmJ7_fill_53178_q9 [.ref (ad 9), .int x1] (wX cy ad fad σ) (wX cy ad fad res) := by
  refine mt_V (by decide) rfl (Nat.le_of_ble_eq_true rfl) ?_
  intro p e s m args below meth c A Q C h0 hr
  replace C : vv_X p s m args meth c D (tysW cy) A 4 cJ7_fill_53178 RJ7 wsJ7_fill_53178 := C
  replace hF : (fJ7_fill_53178_q9_5  FU_ x1 0 10 σ : Option St_) = some res := hF
  refine vv_lv [0, 1] (lv' := [(0, .ref (ad 9)), (1, .int x1)]) rfl ?_
  refine vv_iconst (v := 0) C dJ7_fill_53178_0 (by decide) ?_
  refine vv_istore_n (lv' := [(2, .int 0), (0, .ref (ad 9)), (1, .int x1)]) C dJ7_fill_53178_1 (by decide) rfl ?_
  refine vv_aload_n C dJ7_fill_53178_2 1 rfl ?_
  refine vv_alen (v := 10) C 9 0 (wX_g9 cy ad fad _) (tysW_0 cy) rfl dJ7_fill_53178_3 ?_
  refine vv_istore_n (lv' := [(3, .int 10), (2, .int 0), (0, .ref (ad 9)), (1, .int x1)]) C dJ7_fill_53178_4 (by decide) rfl ?_
  refine vv_lv [2, 3, 1, 0] rfl ?_
  exact vJ7_fill_53178_q9_5 C h0 hr  FU_ x1 0 10 σ  hF
/-! J7_fill_53178_q11 -/
abbrev rmJ7_fill_53178_q11 : Room := { frames := 0, cells := 0, slots := 0, locals := 0 }
def fJ7_fill_53178_q11_5 : Nat → Int32 → Int32 → Int32 → St_ → Option St_
  | 0, _, _, _, _ => none
  | n + 1, x1, x2, x3, σ => (if x3 ≤ x2 then some σ else (gd_ x2 8 fun j1 => fJ7_fill_53178_q11_5  n x1 (x2 + 1) x3 (uM σ 11 j1 x1)))
def fJ7_fill_53178_q11 (x1 : Int32) (σ : St_) : Option St_ := fJ7_fill_53178_q11_5  FU_ x1 0 8 σ
set_option maxHeartbeats 4000000 in
set_option maxRecDepth 20000 in
theorem vJ7_fill_53178_q11_5 {p : Program} {l : Launch} {e : Env} {s : State} {m : MethodId} {args : Array Value} {below : List Frame} {meth : Method} {c : Code} {D : va_G} {A : Nat → Prop} {Q : State → Prop} {cy : Nat → ClassId} {ad fad : Nat → Nat} {res : St_} (C : vv_X p s m args meth c D (tysW cy) A 4 cJ7_fill_53178 RJ7 wsJ7_fill_53178) (h0 : eX A s) (hr : rt_V p l e rmJ7_fill_53178_q11 s m args below meth c D A 4 Q cJ7_fill_53178 (wX cy ad fad res)) : ∀ (n : Nat) (x1 : Int32) (x2 : Int32) (x3 : Int32) (σ : St_), fJ7_fill_53178_q11_5  n x1 x2 x3 σ = some res → vv_ p l e rmJ7_fill_53178_q11 s m args below meth c D A 4 Q 0 0 (wX cy ad fad σ) [(0, .ref (ad 11)), (1, .int x1), (2, .int x2), (3, .int x3)] 5 [] := by
  intro n
  induction n with
  | zero =>
    intro x1 x2 x3 σ hF
    cases (show none = some res from hF)
  | succ n ih =>
    intro x1 x2 x3 σ hF
    replace hF : ((if x3 ≤ x2 then some σ else (gd_ x2 8 fun j1 => fJ7_fill_53178_q11_5  n x1 (x2 + 1) x3 (uM σ 11 j1 x1))) : Option St_) = some res := hF
    refine vv_iload_n C dJ7_fill_53178_5 2 rfl ?_
    refine vv_iload_n C dJ7_fill_53178_6 3 rfl ?_
    refine vv_icmp_ge (tgt := 20) C dJ7_fill_53178_7 (by decide) hF (fun c2 hF => ?_) (fun c2 hF => ?_)
    · cases hF
      exact hr _ _ dJ7_fill_53178_20
    · refine vv_aload_n C dJ7_fill_53178_10 0 rfl ?_
      refine vv_iload_n C dJ7_fill_53178_11 2 rfl ?_
      refine vv_iload_n C dJ7_fill_53178_12 1 rfl ?_
      refine vv_iast (w' := fun j1 => (wX cy ad fad (uM σ 11 j1 x1))) C 11 0 (wX_g11 cy ad fad _) (tysW_0 cy) hF dJ7_fill_53178_13 (fun _ => wX_a11 _ _ _ _ _) (fun j1 hj1 hF => ?_)
      refine vv_iinc (q := 2) (v := x2 + 1) (lv' := [(2, .int (x2 + 1)), (0, .ref (ad 11)), (1, .int x1), (3, .int x3)]) C dJ7_fill_53178_14 rfl rfl (by decide) rfl ?_
      refine vv_goto (tgt := 5) C dJ7_fill_53178_17 (by decide) ?_
      refine vv_lv [1, 2, 0, 3] rfl ?_
      exact ih x1 (x2 + 1) x3 (uM σ 11 j1 x1)  hF
set_option maxHeartbeats 4000000 in
set_option maxRecDepth 20000 in
theorem kJ7_fill_53178_q11 (l : Launch) (D : va_G) (cy : Nat → ClassId) (ad fad : Nat → Nat) (x1 : Int32) (σ : St_) (res : St_)  (hF : fJ7_fill_53178_q11 x1 σ = some res) : ct_V l D (tysW cy) eX yJ7_fill_53178 wsJ7_fill_53178 rmJ7_fill_53178_q11 [.ref (ad 11), .int x1] (wX cy ad fad σ) (wX cy ad fad res) := by
  refine mt_V (by decide) rfl (Nat.le_of_ble_eq_true rfl) ?_
  intro p e s m args below meth c A Q C h0 hr
  replace C : vv_X p s m args meth c D (tysW cy) A 4 cJ7_fill_53178 RJ7 wsJ7_fill_53178 := C
  replace hF : (fJ7_fill_53178_q11_5  FU_ x1 0 8 σ : Option St_) = some res := hF
  refine vv_lv [0, 1] (lv' := [(0, .ref (ad 11)), (1, .int x1)]) rfl ?_
  refine vv_iconst (v := 0) C dJ7_fill_53178_0 (by decide) ?_
  refine vv_istore_n (lv' := [(2, .int 0), (0, .ref (ad 11)), (1, .int x1)]) C dJ7_fill_53178_1 (by decide) rfl ?_
  refine vv_aload_n C dJ7_fill_53178_2 1 rfl ?_
  refine vv_alen (v := 8) C 11 0 (wX_g11 cy ad fad _) (tysW_0 cy) rfl dJ7_fill_53178_3 ?_
  refine vv_istore_n (lv' := [(3, .int 8), (2, .int 0), (0, .ref (ad 11)), (1, .int x1)]) C dJ7_fill_53178_4 (by decide) rfl ?_
  refine vv_lv [2, 3, 1, 0] rfl ?_
  exact vJ7_fill_53178_q11_5 C h0 hr  FU_ x1 0 8 σ  hF
/-! J7_fill_53178_qr -/
abbrev rmJ7_fill_53178_qr : Room := { frames := 0, cells := 0, slots := 0, locals := 0 }
def fJ7_fill_53178_qr_5 : Nat → Nat → Int32 → Int32 → Int32 → St_ → Option St_
  | 0, _, _, _, _, _ => none
  | n + 1, i0, x1, x2, x3, σ => (if x3 ≤ x2 then some σ else (gd_ x2 10 fun j1 => fJ7_fill_53178_qr_5  n i0 x1 (x2 + 1) x3 (uM σ (12 + i0) j1 x1)))
def fJ7_fill_53178_qr (i0 : Nat) (x1 : Int32) (σ : St_) : Option St_ := fJ7_fill_53178_qr_5  FU_ i0 x1 0 10 σ
set_option maxHeartbeats 4000000 in
set_option maxRecDepth 20000 in
theorem vJ7_fill_53178_qr_5 {p : Program} {l : Launch} {e : Env} {s : State} {m : MethodId} {args : Array Value} {below : List Frame} {meth : Method} {c : Code} {D : va_G} {A : Nat → Prop} {Q : State → Prop} {cy : Nat → ClassId} {ad fad : Nat → Nat} {res : St_} (C : vv_X p s m args meth c D (tysW cy) A 4 cJ7_fill_53178 RJ7 wsJ7_fill_53178) (h0 : eX A s) (hr : rt_V p l e rmJ7_fill_53178_qr s m args below meth c D A 4 Q cJ7_fill_53178 (wX cy ad fad res)) : ∀ (n : Nat) (i0 : Nat) (x1 : Int32) (x2 : Int32) (x3 : Int32) (σ : St_), (i0 < 10) → fJ7_fill_53178_qr_5  n i0 x1 x2 x3 σ = some res → vv_ p l e rmJ7_fill_53178_qr s m args below meth c D A 4 Q 0 0 (wX cy ad fad σ) [(0, .ref (ad (12 + i0))), (1, .int x1), (2, .int x2), (3, .int x3)] 5 [] := by
  intro n
  induction n with
  | zero =>
    intro i0 x1 x2 x3 σ hfl0 hF
    cases (show none = some res from hF)
  | succ n ih =>
    intro i0 x1 x2 x3 σ hfl0 hF
    replace hF : ((if x3 ≤ x2 then some σ else (gd_ x2 10 fun j1 => fJ7_fill_53178_qr_5  n i0 x1 (x2 + 1) x3 (uM σ (12 + i0) j1 x1))) : Option St_) = some res := hF
    refine vv_iload_n C dJ7_fill_53178_5 2 rfl ?_
    refine vv_iload_n C dJ7_fill_53178_6 3 rfl ?_
    refine vv_icmp_ge (tgt := 20) C dJ7_fill_53178_7 (by decide) hF (fun c2 hF => ?_) (fun c2 hF => ?_)
    · cases hF
      exact hr _ _ dJ7_fill_53178_20
    · refine vv_aload_n C dJ7_fill_53178_10 0 rfl ?_
      refine vv_iload_n C dJ7_fill_53178_11 2 rfl ?_
      refine vv_iload_n C dJ7_fill_53178_12 1 rfl ?_
      refine vv_iast (w' := fun j1 => (wX cy ad fad (uM σ (12 + i0) j1 x1))) C (12 + i0) 0 (wX_row cy ad fad _ _ hfl0) (tysW_0 cy) hF dJ7_fill_53178_13 (fun _ => wX_rowS _ _ _ _ _ _ hfl0) (fun j1 hj1 hF => ?_)
      refine vv_iinc (q := 2) (v := x2 + 1) (lv' := [(2, .int (x2 + 1)), (0, .ref (ad (12 + i0))), (1, .int x1), (3, .int x3)]) C dJ7_fill_53178_14 rfl rfl (by decide) rfl ?_
      refine vv_goto (tgt := 5) C dJ7_fill_53178_17 (by decide) ?_
      refine vv_lv [1, 2, 0, 3] rfl ?_
      exact ih i0 x1 (x2 + 1) x3 (uM σ (12 + i0) j1 x1) hfl0 hF
set_option maxHeartbeats 4000000 in
set_option maxRecDepth 20000 in
theorem kJ7_fill_53178_qr (l : Launch) (D : va_G) (cy : Nat → ClassId) (ad fad : Nat → Nat) (i0 : Nat) (x1 : Int32) (σ : St_) (res : St_) (hi0 : i0 < 10) (hF : fJ7_fill_53178_qr i0 x1 σ = some res) : ct_V l D (tysW cy) eX yJ7_fill_53178 wsJ7_fill_53178 rmJ7_fill_53178_qr [.ref (ad (12 + i0)), .int x1] (wX cy ad fad σ) (wX cy ad fad res) := by
  refine mt_V (by decide) rfl (Nat.le_of_ble_eq_true rfl) ?_
  intro p e s m args below meth c A Q C h0 hr
  replace C : vv_X p s m args meth c D (tysW cy) A 4 cJ7_fill_53178 RJ7 wsJ7_fill_53178 := C
  replace hF : (fJ7_fill_53178_qr_5  FU_ i0 x1 0 10 σ : Option St_) = some res := hF
  refine vv_lv [0, 1] (lv' := [(0, .ref (ad (12 + i0))), (1, .int x1)]) rfl ?_
  refine vv_iconst (v := 0) C dJ7_fill_53178_0 (by decide) ?_
  refine vv_istore_n (lv' := [(2, .int 0), (0, .ref (ad (12 + i0))), (1, .int x1)]) C dJ7_fill_53178_1 (by decide) rfl ?_
  refine vv_aload_n C dJ7_fill_53178_2 1 rfl ?_
  refine vv_alen (v := 10) C (12 + i0) 0 (wX_row cy ad fad _ _ hi0) (tysW_0 cy) rfl dJ7_fill_53178_3 ?_
  refine vv_istore_n (lv' := [(3, .int 10), (2, .int 0), (0, .ref (ad (12 + i0))), (1, .int x1)]) C dJ7_fill_53178_4 (by decide) rfl ?_
  refine vv_lv [2, 3, 1, 0] rfl ?_
  exact vJ7_fill_53178_qr_5 C h0 hr  FU_ i0 x1 0 10 σ hi0 hF
