/-! X3_size -/
abbrev rmX3_size : Room := { frames := 0, cells := 0, slots := 0, locals := 0 }
theorem hi_X3_size_X3 : ∀ w ∈ wsX30, w ∈ wsX3_size := fun w h => List.mem_cons_of_mem _ (List.mem_append_right _ h)
def fX3_size (σ : St_) : Option Int32 := some (sS σ 0)
set_option maxHeartbeats 4000000 in
set_option maxRecDepth 20000 in
theorem kX3_size (l : Launch) (D : va_G) (cy : Nat → ClassId) (ad fad : Nat → Nat) (σ : St_) (res : Int32)  (hF : fX3_size σ = some res) : ct_I l D (tysW cy) eX yX3_size wsX3_size rmX3_size [.ref (ad 24)] (wX cy ad fad σ) res (wX cy ad fad σ) := by
  refine mt_I (by decide) rfl (Nat.le_of_ble_eq_true rfl) ?_
  intro p e s m args below meth c A Q C h0 hr
  replace C : vv_X p s m args meth c D (tysW cy) A 1 cX3_size RX3 wsX3_size := C
  replace hF : (some (sS σ 0) : Option Int32) = some res := hF
  refine vv_lv [0] (lv' := [(0, .ref (ad 24))]) rfl ?_
  refine vv_aload_n C dX3_size_0 0 rfl ?_
  refine vv_get (v := .int (sS σ 0)) C (hi_X3_size_X3) 24 (wX_g24 cy ad fad _) rfl 1 (by decide) (List.mem_of_getElem? (i := 1) rfl) rfl dX3_size_1 ?_
  cases hF
  exact hr _ _ dX3_size_4 rfl
/-! X3_takesFeed -/
abbrev rmX3_takesFeed : Room := { frames := 0, cells := 0, slots := 0, locals := 0 }
theorem hi_X3_takesFeed_X3 : ∀ w ∈ wsX30, w ∈ wsX3_takesFeed := fun w h => List.mem_cons_of_mem _ (List.mem_append_right _ h)
def fX3_takesFeed (σ : St_) : Option Int32 := (if 60 < ((sS σ 0) + 20) then some 0 else some 1)
set_option maxHeartbeats 4000000 in
set_option maxRecDepth 20000 in
theorem kX3_takesFeed (l : Launch) (D : va_G) (cy : Nat → ClassId) (ad fad : Nat → Nat) (σ : St_) (res : Int32)  (hF : fX3_takesFeed σ = some res) : ct_I l D (tysW cy) eX yX3_takesFeed wsX3_takesFeed rmX3_takesFeed [.ref (ad 24)] (wX cy ad fad σ) res (wX cy ad fad σ) := by
  refine mt_I (by decide) rfl (Nat.le_of_ble_eq_true rfl) ?_
  intro p e s m args below meth c A Q C h0 hr
  replace C : vv_X p s m args meth c D (tysW cy) A 1 cX3_takesFeed RX3 wsX3_takesFeed := C
  replace hF : ((if 60 < ((sS σ 0) + 20) then some 0 else some 1) : Option Int32) = some res := hF
  refine vv_lv [0] (lv' := [(0, .ref (ad 24))]) rfl ?_
  refine vv_aload_n C dX3_takesFeed_0 0 rfl ?_
  refine vv_get (v := .int (sS σ 0)) C (hi_X3_takesFeed_X3) 24 (wX_g24 cy ad fad _) rfl 1 (by decide) (List.mem_of_getElem? (i := 1) rfl) rfl dX3_takesFeed_1 ?_
  refine vv_bipush (v := 20) C dX3_takesFeed_4 (by decide) ?_
  refine vv_iadd C dX3_takesFeed_6 ?_
  refine vv_bipush (v := 60) C dX3_takesFeed_7 (by decide) ?_
  refine vv_icmp_gt (tgt := 16) C dX3_takesFeed_9 (by decide) hF (fun c1 hF => ?_) (fun c1 hF => ?_)
  · refine vv_iconst (v := 0) C dX3_takesFeed_16 (by decide) ?_
    cases hF
    exact hr _ _ dX3_takesFeed_17 nb_Z0
  · refine vv_iconst (v := 1) C dX3_takesFeed_12 (by decide) ?_
    refine vv_goto (tgt := 17) C dX3_takesFeed_13 (by decide) ?_
    cases hF
    exact hr _ _ dX3_takesFeed_17 nb_Z1
/-! X3_put -/
abbrev rmX3_put : Room := { frames := 1, cells := 0, slots := 0, locals := 21 }
theorem hi_X3_put_X3 : ∀ w ∈ wsX30, w ∈ wsX3_put := fun w h => List.mem_cons_of_mem _ (List.mem_append_right _ h)
def fX3_put_45 (k3 : Int32 → Int32 → St_ → Option St_) (x1 : Int32) (x2 : Int32) (σ : St_) : Option St_ := k3 x1 (x2 + (-8)) σ
def fX3_put_3 : Nat → Int32 → Int32 → St_ → Option St_
  | 0, _, _, _ => none
  | n + 1, x1, x2, σ => (if x2 < 0 then some σ else (bn_ (fX5_isBelow (sS σ 0) 60) fun r1 => (if r1 = 0 then fX3_put_45 (fX3_put_3  n) x1 x2 σ else (gd_ (sS σ 0) 60 fun j2 => fX3_put_45 (fX3_put_3  n) x1 x2 (uS (uM σ 0 j2 ((ushr_ x1 x2) &&& 255)) 0 ((sS (uM σ 0 j2 ((ushr_ x1 x2) &&& 255)) 0) + 1))))))
def fX3_put (x1 : Int32) (σ : St_) : Option St_ := fX3_put_3  FU_ x1 24 σ
set_option maxHeartbeats 4000000 in
set_option maxRecDepth 20000 in
theorem vX3_put_45 {p : Program} {l : Launch} {e : Env} {s : State} {m : MethodId} {args : Array Value} {below : List Frame} {meth : Method} {c : Code} {D : va_G} {A : Nat → Prop} {Q : State → Prop} {cy : Nat → ClassId} {ad fad : Nat → Nat} {k3 : Int32 → Int32 → St_ → Option St_} {res : St_} (C : vv_X p s m args meth c D (tysW cy) A 3 cX3_put RX3 wsX3_put) (h0 : eX A s) (hr : rt_V p l e rmX3_put s m args below meth c D A 3 Q cX3_put (wX cy ad fad res)) (hk3 : ∀ (x1 : Int32) (x2 : Int32) (σ : St_), k3 x1 x2 σ = some res → vv_ p l e rmX3_put s m args below meth c D A 3 Q 0 0 (wX cy ad fad σ) [(0, .ref (ad 24)), (1, .int x1), (2, .int x2)] 3 []) : ∀ (x1 : Int32) (x2 : Int32) (σ : St_), fX3_put_45 k3 x1 x2 σ = some res → vv_ p l e rmX3_put s m args below meth c D A 3 Q 0 0 (wX cy ad fad σ) [(0, .ref (ad 24)), (1, .int x1), (2, .int x2)] 45 [] := by
  intro x1 x2 σ hF
  replace hF : (k3 x1 (x2 + (-8)) σ : Option St_) = some res := hF
  refine vv_iinc (q := 2) (v := x2 + (-8)) (lv' := [(2, .int (x2 + (-8))), (0, .ref (ad 24)), (1, .int x1)]) C dX3_put_45 rfl rfl (by decide) rfl ?_
  refine vv_goto (tgt := 3) C dX3_put_48 (by decide) ?_
  refine vv_lv [1, 2, 0] rfl ?_
  exact hk3 x1 (x2 + (-8)) σ  hF
set_option maxHeartbeats 4000000 in
set_option maxRecDepth 20000 in
theorem vX3_put_3 {p : Program} {l : Launch} {e : Env} {s : State} {m : MethodId} {args : Array Value} {below : List Frame} {meth : Method} {c : Code} {D : va_G} {A : Nat → Prop} {Q : State → Prop} {cy : Nat → ClassId} {ad fad : Nat → Nat} {res : St_} (C : vv_X p s m args meth c D (tysW cy) A 3 cX3_put RX3 wsX3_put) (h0 : eX A s) (hr : rt_V p l e rmX3_put s m args below meth c D A 3 Q cX3_put (wX cy ad fad res)) : ∀ (n : Nat) (x1 : Int32) (x2 : Int32) (σ : St_), fX3_put_3  n x1 x2 σ = some res → vv_ p l e rmX3_put s m args below meth c D A 3 Q 0 0 (wX cy ad fad σ) [(0, .ref (ad 24)), (1, .int x1), (2, .int x2)] 3 [] := by
  intro n
  induction n with
  | zero =>
    intro x1 x2 σ hF
    cases (show none = some res from hF)
  | succ n ih =>
    intro x1 x2 σ hF
    replace hF : ((if x2 < 0 then some σ else (bn_ (fX5_isBelow (sS σ 0) 60) fun r1 => (if r1 = 0 then fX3_put_45 (fX3_put_3  n) x1 x2 σ else (gd_ (sS σ 0) 60 fun j2 => fX3_put_45 (fX3_put_3  n) x1 x2 (uS (uM σ 0 j2 ((ushr_ x1 x2) &&& 255)) 0 ((sS (uM σ 0 j2 ((ushr_ x1 x2) &&& 255)) 0) + 1)))))) : Option St_) = some res := hF
    refine vv_iload_n C dX3_put_3 2 rfl ?_
    refine vv_if_lt (tgt := 51) C dX3_put_4 (by decide) hF (fun c4 hF => ?_) (fun c4 hF => ?_)
    · cases hF
      exact hr _ _ dX3_put_51
    · refine vv_aload_n C dX3_put_7 0 rfl ?_
      refine vv_get (v := .int (sS σ 0)) C (hi_X3_put_X3) 24 (wX_g24 cy ad fad _) rfl 1 (by decide) (List.mem_of_getElem? (i := 1) rfl) rfl dX3_put_8 ?_
      refine vv_bipush (v := 60) C dX3_put_11 (by decide) ?_
      refine vv_callNi (fun r1 => r1) (fun r1 => (wX cy ad fad σ)) C eX_ok h0 [.int (sS σ 0), .int 60] [] 2 hF (fun r1 hr1 => kX5_isBelow l D (tysW cy) eX_ok (wX cy ad fad σ) (sS σ 0) 60 r1  hr1) gX3_put_X5_isBelow_n17 (eX_nX3_17 h0) (List.mem_of_getElem? (i := 4) rfl) (List.mem_of_getElem? (i := 3) rfl) rfl rfl rfl (by decide +kernel) ⟨by decide, by decide⟩ rfl rfl (Nat.le_of_ble_eq_true rfl) dX3_put_13 ⟨by decide, by decide⟩ (fun r1 hqr1 hF => ?_)
      refine vv_if_eq (tgt := 45) C dX3_put_16 (by decide) hF (fun c3 hF => ?_) (fun c3 hF => ?_)
      · refine vv_lv [0, 1, 2] rfl ?_
        exact vX3_put_45 C h0 hr (ih) x1 x2 σ  hF
      · refine vv_aload_n C dX3_put_19 0 rfl ?_
        refine vv_get (v := .ref (ad 0)) C (hi_X3_put_X3) 24 (wX_g24 cy ad fad _) rfl 0 (by decide) (List.mem_of_getElem? (i := 2) rfl) rfl dX3_put_20 ?_
        refine vv_aload_n C dX3_put_23 0 rfl ?_
        refine vv_get (v := .int (sS σ 0)) C (hi_X3_put_X3) 24 (wX_g24 cy ad fad _) rfl 1 (by decide) (List.mem_of_getElem? (i := 1) rfl) rfl dX3_put_24 ?_
        refine vv_iload_n C dX3_put_27 1 rfl ?_
        refine vv_iload_n C dX3_put_28 2 rfl ?_
        refine vv_iushr C dX3_put_29 ?_
        refine vv_sipush (v := 255) C dX3_put_30 (by decide) ?_
        refine vv_iand C dX3_put_33 ?_
        refine vv_iast (w' := fun j2 => (wX cy ad fad (uM σ 0 j2 ((ushr_ x1 x2) &&& 255)))) C 0 0 (wX_g0 cy ad fad _) (tysW_0 cy) hF dX3_put_34 (fun _ => wX_a0 _ _ _ _ _) (fun j2 hj2 hF => ?_)
        refine vv_aload_n C dX3_put_35 0 rfl ?_
        refine vv_dup C dX3_put_36 rfl ?_
        refine vv_get (v := .int (sS (uM σ 0 j2 ((ushr_ x1 x2) &&& 255)) 0)) C (hi_X3_put_X3) 24 (wX_g24 cy ad fad _) rfl 1 (by decide) (List.mem_of_getElem? (i := 1) rfl) rfl dX3_put_37 ?_
        refine vv_iconst (v := 1) C dX3_put_40 (by decide) ?_
        refine vv_iadd C dX3_put_41 ?_
        refine vv_put (w' := (wX cy ad fad (uS (uM σ 0 j2 ((ushr_ x1 x2) &&& 255)) 0 ((sS (uM σ 0 j2 ((ushr_ x1 x2) &&& 255)) 0) + 1)))) C (hi_X3_put_X3) tyX3 tyX3_ok nmX3 24 (wX_g24 cy ad fad _) rfl 1 (by decide) (List.mem_of_getElem? (i := 1) rfl) rfl rfl rfl (Nat.le_of_ble_eq_true rfl) dX3_put_42 (wX_s0 _ _ _ _ _) ?_
        refine vv_lv [0, 1, 2] rfl ?_
        exact vX3_put_45 C h0 hr (ih) x1 x2 (uS (uM σ 0 j2 ((ushr_ x1 x2) &&& 255)) 0 ((sS (uM σ 0 j2 ((ushr_ x1 x2) &&& 255)) 0) + 1))  hF
set_option maxHeartbeats 4000000 in
set_option maxRecDepth 20000 in
theorem kX3_put (l : Launch) (D : va_G) (cy : Nat → ClassId) (ad fad : Nat → Nat) (x1 : Int32) (σ : St_) (res : St_)  (hF : fX3_put x1 σ = some res) : ct_V l D (tysW cy) eX yX3_put wsX3_put rmX3_put [.ref (ad 24), .int x1] (wX cy ad fad σ) (wX cy ad fad res) := by
  refine mt_V (by decide) rfl (Nat.le_of_ble_eq_true rfl) ?_
  intro p e s m args below meth c A Q C h0 hr
  replace C : vv_X p s m args meth c D (tysW cy) A 3 cX3_put RX3 wsX3_put := C
  replace hF : (fX3_put_3  FU_ x1 24 σ : Option St_) = some res := hF
  refine vv_lv [0, 1] (lv' := [(0, .ref (ad 24)), (1, .int x1)]) rfl ?_
  refine vv_bipush (v := 24) C dX3_put_0 (by decide) ?_
  refine vv_istore_n (lv' := [(2, .int 24), (0, .ref (ad 24)), (1, .int x1)]) C dX3_put_2 (by decide) rfl ?_
  refine vv_lv [1, 2, 0] rfl ?_
  exact vX3_put_3 C h0 hr  FU_ x1 24 σ  hF
/-! X3_cutTo -/
abbrev rmX3_cutTo : Room := { frames := 0, cells := 0, slots := 0, locals := 0 }
theorem hi_X3_cutTo_X3 : ∀ w ∈ wsX30, w ∈ wsX3_cutTo := fun w h => List.mem_cons_of_mem _ (List.mem_append_right _ h)
def fX3_cutTo (x1 : Int32) (σ : St_) : Option St_ := (if x1 < 0 then some σ else (if (sS σ 0) ≤ x1 then some σ else some (uS σ 0 x1)))
set_option maxHeartbeats 4000000 in
set_option maxRecDepth 20000 in
theorem kX3_cutTo (l : Launch) (D : va_G) (cy : Nat → ClassId) (ad fad : Nat → Nat) (x1 : Int32) (σ : St_) (res : St_)  (hF : fX3_cutTo x1 σ = some res) : ct_V l D (tysW cy) eX yX3_cutTo wsX3_cutTo rmX3_cutTo [.ref (ad 24), .int x1] (wX cy ad fad σ) (wX cy ad fad res) := by
  refine mt_V (by decide) rfl (Nat.le_of_ble_eq_true rfl) ?_
  intro p e s m args below meth c A Q C h0 hr
  replace C : vv_X p s m args meth c D (tysW cy) A 2 cX3_cutTo RX3 wsX3_cutTo := C
  replace hF : ((if x1 < 0 then some σ else (if (sS σ 0) ≤ x1 then some σ else some (uS σ 0 x1))) : Option St_) = some res := hF
  refine vv_lv [0, 1] (lv' := [(0, .ref (ad 24)), (1, .int x1)]) rfl ?_
  refine vv_iload_n C dX3_cutTo_0 1 rfl ?_
  refine vv_if_lt (tgt := 17) C dX3_cutTo_1 (by decide) hF (fun c2 hF => ?_) (fun c2 hF => ?_)
  · cases hF
    exact hr _ _ dX3_cutTo_17
  · refine vv_iload_n C dX3_cutTo_4 1 rfl ?_
    refine vv_aload_n C dX3_cutTo_5 0 rfl ?_
    refine vv_get (v := .int (sS σ 0)) C (hi_X3_cutTo_X3) 24 (wX_g24 cy ad fad _) rfl 1 (by decide) (List.mem_of_getElem? (i := 1) rfl) rfl dX3_cutTo_6 ?_
    refine vv_icmp_ge (tgt := 17) C dX3_cutTo_9 (by decide) hF (fun c1 hF => ?_) (fun c1 hF => ?_)
    · cases hF
      exact hr _ _ dX3_cutTo_17
    · refine vv_aload_n C dX3_cutTo_12 0 rfl ?_
      refine vv_iload_n C dX3_cutTo_13 1 rfl ?_
      refine vv_put (w' := (wX cy ad fad (uS σ 0 x1))) C (hi_X3_cutTo_X3) tyX3 tyX3_ok nmX3 24 (wX_g24 cy ad fad _) rfl 1 (by decide) (List.mem_of_getElem? (i := 1) rfl) rfl rfl rfl (Nat.le_of_ble_eq_true rfl) dX3_cutTo_14 (wX_s0 _ _ _ _ _) ?_
      cases hF
      exact hr _ _ dX3_cutTo_17
/-! X3_at -/
abbrev rmX3_at : Room := { frames := 1, cells := 0, slots := 0, locals := 21 }
theorem hi_X3_at_X3 : ∀ w ∈ wsX30, w ∈ wsX3_at := fun w h => List.mem_cons_of_mem _ (List.mem_append_right _ h)
def fX3_at (x1 : Int32) (σ : St_) : Option Int32 := (bn_ (fX5_isBelow x1 (sS σ 0)) fun r1 => (if r1 = 0 then some (-1) else (gd_ x1 60 fun j2 => some (sM σ 0 j2))))
set_option maxHeartbeats 4000000 in
set_option maxRecDepth 20000 in
theorem kX3_at (l : Launch) (D : va_G) (cy : Nat → ClassId) (ad fad : Nat → Nat) (x1 : Int32) (σ : St_) (res : Int32)  (hF : fX3_at x1 σ = some res) : ct_I l D (tysW cy) eX yX3_at wsX3_at rmX3_at [.ref (ad 24), .int x1] (wX cy ad fad σ) res (wX cy ad fad σ) := by
  refine mt_I (by decide) rfl (Nat.le_of_ble_eq_true rfl) ?_
  intro p e s m args below meth c A Q C h0 hr
  replace C : vv_X p s m args meth c D (tysW cy) A 2 cX3_at RX3 wsX3_at := C
  replace hF : ((bn_ (fX5_isBelow x1 (sS σ 0)) fun r1 => (if r1 = 0 then some (-1) else (gd_ x1 60 fun j2 => some (sM σ 0 j2)))) : Option Int32) = some res := hF
  refine vv_lv [0, 1] (lv' := [(0, .ref (ad 24)), (1, .int x1)]) rfl ?_
  refine vv_iload_n C dX3_at_0 1 rfl ?_
  refine vv_aload_n C dX3_at_1 0 rfl ?_
  refine vv_get (v := .int (sS σ 0)) C (hi_X3_at_X3) 24 (wX_g24 cy ad fad _) rfl 1 (by decide) (List.mem_of_getElem? (i := 1) rfl) rfl dX3_at_2 ?_
  refine vv_callNi (fun r1 => r1) (fun r1 => (wX cy ad fad σ)) C eX_ok h0 [.int x1, .int (sS σ 0)] [] 2 hF (fun r1 hr1 => kX5_isBelow l D (tysW cy) eX_ok (wX cy ad fad σ) x1 (sS σ 0) r1  hr1) gX3_at_X5_isBelow_n17 (eX_nX3_17 h0) (List.mem_of_getElem? (i := 4) rfl) (List.mem_of_getElem? (i := 3) rfl) rfl rfl rfl (by decide +kernel) ⟨by decide, by decide⟩ rfl rfl (Nat.le_of_ble_eq_true rfl) dX3_at_5 ⟨by decide, by decide⟩ (fun r1 hqr1 hF => ?_)
  refine vv_if_eq (tgt := 20) C dX3_at_8 (by decide) hF (fun c3 hF => ?_) (fun c3 hF => ?_)
  · refine vv_iconst (v := (-1)) C dX3_at_20 (by decide) ?_
    cases hF
    exact hr _ _ dX3_at_21 rfl
  · refine vv_aload_n C dX3_at_11 0 rfl ?_
    refine vv_get (v := .ref (ad 0)) C (hi_X3_at_X3) 24 (wX_g24 cy ad fad _) rfl 0 (by decide) (List.mem_of_getElem? (i := 2) rfl) rfl dX3_at_12 ?_
    refine vv_iload_n C dX3_at_15 1 rfl ?_
    refine vv_iald C 0 0 (wX_g0 cy ad fad _) (tysW_0 cy) hF dX3_at_16 (fun j2 hj2 hF => ?_)
    refine vv_goto (tgt := 21) C dX3_at_17 (by decide) ?_
    cases hF
    exact hr _ _ dX3_at_21 rfl
/-! X3_hasDigitAt -/
abbrev rmX3_hasDigitAt : Room := { frames := 2, cells := 0, slots := 0, locals := 42 }
def fX3_hasDigitAt (x1 : Int32) (σ : St_) : Option Int32 := (bn_ (fX3_at x1 σ) fun r1 => (if r1 < 48 then some 0 else (bn_ (fX3_at x1 σ) fun r2 => (if 57 < r2 then some 0 else some 1))))
set_option maxHeartbeats 4000000 in
set_option maxRecDepth 20000 in
theorem kX3_hasDigitAt (l : Launch) (D : va_G) (cy : Nat → ClassId) (ad fad : Nat → Nat) (x1 : Int32) (σ : St_) (res : Int32)  (hF : fX3_hasDigitAt x1 σ = some res) : ct_I l D (tysW cy) eX yX3_hasDigitAt wsX3_hasDigitAt rmX3_hasDigitAt [.ref (ad 24), .int x1] (wX cy ad fad σ) res (wX cy ad fad σ) := by
  refine mt_I (by decide) rfl (Nat.le_of_ble_eq_true rfl) ?_
  intro p e s m args below meth c A Q C h0 hr
  replace C : vv_X p s m args meth c D (tysW cy) A 2 cX3_hasDigitAt RX3 wsX3_hasDigitAt := C
  replace hF : ((bn_ (fX3_at x1 σ) fun r1 => (if r1 < 48 then some 0 else (bn_ (fX3_at x1 σ) fun r2 => (if 57 < r2 then some 0 else some 1)))) : Option Int32) = some res := hF
  refine vv_lv [0, 1] (lv' := [(0, .ref (ad 24)), (1, .int x1)]) rfl ?_
  refine vv_aload_n C dX3_hasDigitAt_0 0 rfl ?_
  refine vv_iload_n C dX3_hasDigitAt_1 1 rfl ?_
  refine vv_callVi (fun r1 => r1) (fun r1 => (wX cy ad fad σ)) C eX_ok h0 [.int x1] [] 1 hF (fun r1 hr1 => kX3_at l D cy ad fad x1 σ r1  hr1) gX3_hasDigitAt_X3_at rfl rfl rfl (by decide +kernel) ⟨by decide, by decide⟩ 24 (wX_g24 cy ad fad _) rfl rfl rfl (Nat.le_of_ble_eq_true rfl) dX3_hasDigitAt_2 ⟨by decide, by decide⟩ (fun r1 hqr1 hF => ?_)
  refine vv_bipush (v := 48) C dX3_hasDigitAt_5 (by decide) ?_
  refine vv_icmp_lt (tgt := 24) C dX3_hasDigitAt_7 (by decide) hF (fun c4 hF => ?_) (fun c4 hF => ?_)
  · refine vv_iconst (v := 0) C dX3_hasDigitAt_24 (by decide) ?_
    cases hF
    exact hr _ _ dX3_hasDigitAt_25 nb_Z0
  · refine vv_aload_n C dX3_hasDigitAt_10 0 rfl ?_
    refine vv_iload_n C dX3_hasDigitAt_11 1 rfl ?_
    refine vv_callVi (fun r2 => r2) (fun r2 => (wX cy ad fad σ)) C eX_ok h0 [.int x1] [] 1 hF (fun r2 hr2 => kX3_at l D cy ad fad x1 σ r2  hr2) gX3_hasDigitAt_X3_at rfl rfl rfl (by decide +kernel) ⟨by decide, by decide⟩ 24 (wX_g24 cy ad fad _) rfl rfl rfl (Nat.le_of_ble_eq_true rfl) dX3_hasDigitAt_12 ⟨by decide, by decide⟩ (fun r2 hqr2 hF => ?_)
    refine vv_bipush (v := 57) C dX3_hasDigitAt_15 (by decide) ?_
    refine vv_icmp_gt (tgt := 24) C dX3_hasDigitAt_17 (by decide) hF (fun c3 hF => ?_) (fun c3 hF => ?_)
    · refine vv_iconst (v := 0) C dX3_hasDigitAt_24 (by decide) ?_
      cases hF
      exact hr _ _ dX3_hasDigitAt_25 nb_Z0
    · refine vv_iconst (v := 1) C dX3_hasDigitAt_20 (by decide) ?_
      refine vv_goto (tgt := 25) C dX3_hasDigitAt_21 (by decide) ?_
      cases hF
      exact hr _ _ dX3_hasDigitAt_25 nb_Z1
