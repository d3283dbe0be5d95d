/-! X4_areLaid -/
abbrev rmX4_areLaid : Room := { frames := 0, cells := 0, slots := 0, locals := 0 }
theorem hi_X4_areLaid_X4 : ∀ w ∈ wsX40, w ∈ wsX4_areLaid := fun w h => List.mem_cons_of_mem _ (List.mem_append_right _ h)
def fX4_areLaid (σ : St_) : Option Int32 := (gz_ (sS σ 2) (some (sS σ 2)))
set_option maxHeartbeats 4000000 in
set_option maxRecDepth 20000 in
theorem kX4_areLaid (l : Launch) (D : va_G) (cy : Nat → ClassId) (ad fad : Nat → Nat) (σ : St_) (res : Int32)  (hF : fX4_areLaid σ = some res) : ct_I l D (tysW cy) eX yX4_areLaid wsX4_areLaid rmX4_areLaid [.ref (ad 26)] (wX cy ad fad σ) res (wX cy ad fad σ) := by
  refine mt_I (by decide) rfl (Nat.le_of_ble_eq_true rfl) ?_
  intro p e s m args below meth c A Q C h0 hr
  replace C : vv_X p s m args meth c D (tysW cy) A 1 cX4_areLaid RX4 wsX4_areLaid := C
  replace hF : ((gz_ (sS σ 2) (some (sS σ 2))) : Option Int32) = some res := hF
  refine vv_lv [0] (lv' := [(0, .ref (ad 26))]) rfl ?_
  refine vv_aload_n C dX4_areLaid_0 0 rfl ?_
  refine vv_get (v := .int (sS σ 2)) C (hi_X4_areLaid_X4) 26 (wX_g26 cy ad fad _) rfl 3 (by decide) (List.mem_of_getElem? (i := 1) rfl) rfl dX4_areLaid_1 ?_
  obtain ⟨hz, hF⟩ := gz_some hF
  cases hF
  exact hr _ _ dX4_areLaid_4 (gz_nar hz)
/-! X4_setLaid -/
abbrev rmX4_setLaid : Room := { frames := 0, cells := 0, slots := 0, locals := 0 }
theorem hi_X4_setLaid_X4 : ∀ w ∈ wsX40, w ∈ wsX4_setLaid := fun w h => List.mem_cons_of_mem _ (List.mem_append_right _ h)
def fX4_setLaid (σ : St_) : Option St_ := some (uS σ 2 1)
set_option maxHeartbeats 4000000 in
set_option maxRecDepth 20000 in
theorem kX4_setLaid (l : Launch) (D : va_G) (cy : Nat → ClassId) (ad fad : Nat → Nat) (σ : St_) (res : St_)  (hF : fX4_setLaid σ = some res) : ct_V l D (tysW cy) eX yX4_setLaid wsX4_setLaid rmX4_setLaid [.ref (ad 26)] (wX cy ad fad σ) (wX cy ad fad res) := by
  refine mt_V (by decide) rfl (Nat.le_of_ble_eq_true rfl) ?_
  intro p e s m args below meth c A Q C h0 hr
  replace C : vv_X p s m args meth c D (tysW cy) A 1 cX4_setLaid RX4 wsX4_setLaid := C
  replace hF : (some (uS σ 2 1) : Option St_) = some res := hF
  refine vv_lv [0] (lv' := [(0, .ref (ad 26))]) rfl ?_
  refine vv_aload_n C dX4_setLaid_0 0 rfl ?_
  refine vv_iconst (v := 1) C dX4_setLaid_1 (by decide) ?_
  refine vv_put (w' := (wX cy ad fad (uS σ 2 1))) C (hi_X4_setLaid_X4) tyX4 tyX4_ok nmX4 26 (wX_g26 cy ad fad _) rfl 3 (by decide) (List.mem_of_getElem? (i := 1) rfl) rfl (by decide +kernel) (by decide +kernel) (Nat.le_of_ble_eq_true rfl) dX4_setLaid_2 (wX_s2 _ _ _ _ _) ?_
  cases hF
  exact hr _ _ dX4_setLaid_5
/-! X4_setVisitors -/
abbrev rmX4_setVisitors : Room := { frames := 0, cells := 0, slots := 0, locals := 0 }
theorem hi_X4_setVisitors_X4 : ∀ w ∈ wsX40, w ∈ wsX4_setVisitors := fun w h => List.mem_cons_of_mem _ (List.mem_append_right _ h)
def fX4_setVisitors (x1 : Int32) (x2 : Int32) (σ : St_) : Option St_ := (gd_ x1 10 fun j1 => some (uM σ 3 j1 x2))
set_option maxHeartbeats 4000000 in
set_option maxRecDepth 20000 in
theorem kX4_setVisitors (l : Launch) (D : va_G) (cy : Nat → ClassId) (ad fad : Nat → Nat) (x1 : Int32) (x2 : Int32) (σ : St_) (res : St_)  (hF : fX4_setVisitors x1 x2 σ = some res) : ct_V l D (tysW cy) eX yX4_setVisitors wsX4_setVisitors rmX4_setVisitors [.ref (ad 26), .int x1, .int x2] (wX cy ad fad σ) (wX cy ad fad res) := by
  refine mt_V (by decide) rfl (Nat.le_of_ble_eq_true rfl) ?_
  intro p e s m args below meth c A Q C h0 hr
  replace C : vv_X p s m args meth c D (tysW cy) A 3 cX4_setVisitors RX4 wsX4_setVisitors := C
  replace hF : ((gd_ x1 10 fun j1 => some (uM σ 3 j1 x2)) : Option St_) = some res := hF
  refine vv_lv [0, 1, 2] (lv' := [(0, .ref (ad 26)), (1, .int x1), (2, .int x2)]) rfl ?_
  refine vv_aload_n C dX4_setVisitors_0 0 rfl ?_
  refine vv_get (v := .ref (ad 3)) C (hi_X4_setVisitors_X4) 26 (wX_g26 cy ad fad _) rfl 0 (by decide) (List.mem_of_getElem? (i := 1) rfl) rfl dX4_setVisitors_1 ?_
  refine vv_iload_n C dX4_setVisitors_4 1 rfl ?_
  refine vv_iload_n C dX4_setVisitors_5 2 rfl ?_
  refine vv_iast (w' := fun j1 => (wX cy ad fad (uM σ 3 j1 x2))) C 3 0 (wX_g3 cy ad fad _) (tysW_0 cy) hF dX4_setVisitors_6 (fun _ => wX_a3 _ _ _ _ _) (fun j1 hj1 hF => ?_)
  cases hF
  exact hr _ _ dX4_setVisitors_7
/-! X4_isVisitor -/
abbrev rmX4_isVisitor : Room := { frames := 1, cells := 0, slots := 0, locals := 21 }
theorem hi_X4_isVisitor_X4 : ∀ w ∈ wsX40, w ∈ wsX4_isVisitor := fun w h => List.mem_cons_of_mem _ (List.mem_append_right _ h)
def fX4_isVisitor (x1 : Int32) (x2 : Int32) (σ : St_) : Option Int32 := (gd_ x2 10 fun j1 => (bn_ (fX5_hasBit (sM σ 3 j1) x1) fun r2 => (gz_ r2 (some r2))))
set_option maxHeartbeats 4000000 in
set_option maxRecDepth 20000 in
theorem kX4_isVisitor (l : Launch) (D : va_G) (cy : Nat → ClassId) (ad fad : Nat → Nat) (x1 : Int32) (x2 : Int32) (σ : St_) (res : Int32)  (hF : fX4_isVisitor x1 x2 σ = some res) : ct_I l D (tysW cy) eX yX4_isVisitor wsX4_isVisitor rmX4_isVisitor [.ref (ad 26), .int x1, .int x2] (wX cy ad fad σ) res (wX cy ad fad σ) := by
  refine mt_I (by decide) rfl (Nat.le_of_ble_eq_true rfl) ?_
  intro p e s m args below meth c A Q C h0 hr
  replace C : vv_X p s m args meth c D (tysW cy) A 3 cX4_isVisitor RX4 wsX4_isVisitor := C
  replace hF : ((gd_ x2 10 fun j1 => (bn_ (fX5_hasBit (sM σ 3 j1) x1) fun r2 => (gz_ r2 (some r2)))) : Option Int32) = some res := hF
  refine vv_lv [0, 1, 2] (lv' := [(0, .ref (ad 26)), (1, .int x1), (2, .int x2)]) rfl ?_
  refine vv_aload_n C dX4_isVisitor_0 0 rfl ?_
  refine vv_get (v := .ref (ad 3)) C (hi_X4_isVisitor_X4) 26 (wX_g26 cy ad fad _) rfl 0 (by decide) (List.mem_of_getElem? (i := 1) rfl) rfl dX4_isVisitor_1 ?_
  refine vv_iload_n C dX4_isVisitor_4 2 rfl ?_
  refine vv_iald C 3 0 (wX_g3 cy ad fad _) (tysW_0 cy) hF dX4_isVisitor_5 (fun j1 hj1 hF => ?_)
  refine vv_iload_n C dX4_isVisitor_6 1 rfl ?_
  refine vv_callNi (fun r2 => r2) (fun r2 => (wX cy ad fad σ)) C eX_ok h0 [.int (sM σ 3 j1), .int x1] [] 2 hF (fun r2 hr2 => kX5_hasBit l D (tysW cy) eX_ok (wX cy ad fad σ) (sM σ 3 j1) x1 r2  hr2) gX4_isVisitor_X5_hasBit_n27 (eX_nX4_27 h0) (List.mem_of_getElem? (i := 3) rfl) (List.mem_of_getElem? (i := 2) rfl) rfl rfl rfl (by decide +kernel) ⟨by decide, by decide⟩ rfl rfl (Nat.le_of_ble_eq_true rfl) dX4_isVisitor_7 ⟨by decide, by decide⟩ (fun r2 hqr2 hF => ?_)
  obtain ⟨hz, hF⟩ := gz_some hF
  cases hF
  exact hr _ _ dX4_isVisitor_10 (gz_nar hz)
/-! X4_wasVisitor -/
abbrev rmX4_wasVisitor : Room := { frames := 1, cells := 0, slots := 0, locals := 21 }
theorem hi_X4_wasVisitor_X4 : ∀ w ∈ wsX40, w ∈ wsX4_wasVisitor := fun w h => List.mem_cons_of_mem _ (List.mem_append_right _ h)
def fX4_wasVisitor (x1 : Int32) (x2 : Int32) (σ : St_) : Option Int32 := (gd_ x2 10 fun j1 => (bn_ (fX5_hasBit (sM σ 4 j1) x1) fun r2 => (gz_ r2 (some r2))))
set_option maxHeartbeats 4000000 in
set_option maxRecDepth 20000 in
theorem kX4_wasVisitor (l : Launch) (D : va_G) (cy : Nat → ClassId) (ad fad : Nat → Nat) (x1 : Int32) (x2 : Int32) (σ : St_) (res : Int32)  (hF : fX4_wasVisitor x1 x2 σ = some res) : ct_I l D (tysW cy) eX yX4_wasVisitor wsX4_wasVisitor rmX4_wasVisitor [.ref (ad 26), .int x1, .int x2] (wX cy ad fad σ) res (wX cy ad fad σ) := by
  refine mt_I (by decide) rfl (Nat.le_of_ble_eq_true rfl) ?_
  intro p e s m args below meth c A Q C h0 hr
  replace C : vv_X p s m args meth c D (tysW cy) A 3 cX4_wasVisitor RX4 wsX4_wasVisitor := C
  replace hF : ((gd_ x2 10 fun j1 => (bn_ (fX5_hasBit (sM σ 4 j1) x1) fun r2 => (gz_ r2 (some r2)))) : Option Int32) = some res := hF
  refine vv_lv [0, 1, 2] (lv' := [(0, .ref (ad 26)), (1, .int x1), (2, .int x2)]) rfl ?_
  refine vv_aload_n C dX4_wasVisitor_0 0 rfl ?_
  refine vv_get (v := .ref (ad 4)) C (hi_X4_wasVisitor_X4) 26 (wX_g26 cy ad fad _) rfl 1 (by decide) (List.mem_of_getElem? (i := 1) rfl) rfl dX4_wasVisitor_1 ?_
  refine vv_iload_n C dX4_wasVisitor_4 2 rfl ?_
  refine vv_iald C 4 0 (wX_g4 cy ad fad _) (tysW_0 cy) hF dX4_wasVisitor_5 (fun j1 hj1 hF => ?_)
  refine vv_iload_n C dX4_wasVisitor_6 1 rfl ?_
  refine vv_callNi (fun r2 => r2) (fun r2 => (wX cy ad fad σ)) C eX_ok h0 [.int (sM σ 4 j1), .int x1] [] 2 hF (fun r2 hr2 => kX5_hasBit l D (tysW cy) eX_ok (wX cy ad fad σ) (sM σ 4 j1) x1 r2  hr2) gX4_wasVisitor_X5_hasBit_n27 (eX_nX4_27 h0) (List.mem_of_getElem? (i := 3) rfl) (List.mem_of_getElem? (i := 2) rfl) rfl rfl rfl (by decide +kernel) ⟨by decide, by decide⟩ rfl rfl (Nat.le_of_ble_eq_true rfl) dX4_wasVisitor_7 ⟨by decide, by decide⟩ (fun r2 hqr2 hF => ?_)
  obtain ⟨hz, hF⟩ := gz_some hF
  cases hF
  exact hr _ _ dX4_wasVisitor_10 (gz_nar hz)
/-! X4_visitorCount -/
abbrev rmX4_visitorCount : Room := { frames := 1, cells := 0, slots := 0, locals := 20 }
theorem hi_X4_visitorCount_X4 : ∀ w ∈ wsX40, w ∈ wsX4_visitorCount := fun w h => List.mem_cons_of_mem _ (List.mem_append_right _ h)
def fX4_visitorCount (x1 : Int32) (σ : St_) : Option Int32 := (gd_ x1 10 fun j1 => (bn_ (fJ6_bitCount_0f7a4 (sM σ 3 j1)) fun r2 => some r2))
set_option maxHeartbeats 4000000 in
set_option maxRecDepth 20000 in
theorem kX4_visitorCount (l : Launch) (D : va_G) (cy : Nat → ClassId) (ad fad : Nat → Nat) (x1 : Int32) (σ : St_) (res : Int32)  (hF : fX4_visitorCount x1 σ = some res) : ct_I l D (tysW cy) eX yX4_visitorCount wsX4_visitorCount rmX4_visitorCount [.ref (ad 26), .int x1] (wX cy ad fad σ) res (wX cy ad fad σ) := by
  refine mt_I (by decide) rfl (Nat.le_of_ble_eq_true rfl) ?_
  intro p e s m args below meth c A Q C h0 hr
  replace C : vv_X p s m args meth c D (tysW cy) A 2 cX4_visitorCount RX4 wsX4_visitorCount := C
  replace hF : ((gd_ x1 10 fun j1 => (bn_ (fJ6_bitCount_0f7a4 (sM σ 3 j1)) fun r2 => some r2)) : Option Int32) = some res := hF
  refine vv_lv [0, 1] (lv' := [(0, .ref (ad 26)), (1, .int x1)]) rfl ?_
  refine vv_aload_n C dX4_visitorCount_0 0 rfl ?_
  refine vv_get (v := .ref (ad 3)) C (hi_X4_visitorCount_X4) 26 (wX_g26 cy ad fad _) rfl 0 (by decide) (List.mem_of_getElem? (i := 1) rfl) rfl dX4_visitorCount_1 ?_
  refine vv_iload_n C dX4_visitorCount_4 1 rfl ?_
  refine vv_iald C 3 0 (wX_g3 cy ad fad _) (tysW_0 cy) hF dX4_visitorCount_5 (fun j1 hj1 hF => ?_)
  refine vv_callSi (fun r2 => r2) (fun r2 => (wX cy ad fad σ)) C eX_ok h0 [.int (sM σ 3 j1)] [] 1 hF (fun r2 hr2 => kJ6_bitCount_0f7a4 l D (tysW cy) eX_ok (wX cy ad fad σ) (sM σ 3 j1) r2  hr2) gX4_visitorCount_J6_bitCount_0f7a4 rfl rfl rfl (by decide +kernel) ⟨by decide, by decide⟩ rfl rfl (Nat.le_of_ble_eq_true rfl) dX4_visitorCount_6 ⟨by decide, by decide⟩ (fun r2 hqr2 hF => ?_)
  cases hF
  exact hr _ _ dX4_visitorCount_9 rfl
/-! X4_visitsBy -/
abbrev rmX4_visitsBy : Room := { frames := 2, cells := 0, slots := 0, locals := 43 }
def fX4_visitsBy_4 (σ : St_) : Nat → Int32 → Int32 → Int32 → Option Int32
  | 0, _, _, _ => none
  | n + 1, x1, x2, x3 => (if 10 ≤ x3 then some x2 else (bn_ (fX4_isVisitor x1 x3 σ) fun r1 => (bn_ (fX5_oneIf r1) fun r2 => fX4_visitsBy_4 σ  n x1 (x2 + r2) (x3 + 1))))
def fX4_visitsBy (x1 : Int32) (σ : St_) : Option Int32 := fX4_visitsBy_4 σ  FU_ x1 0 0
set_option maxHeartbeats 4000000 in
set_option maxRecDepth 20000 in
theorem vX4_visitsBy_4 {p : Program} {l : Launch} {e : Env} {s : State} {m : MethodId} {args : Array Value} {below : List Frame} {meth : Method} {c : Code} {D : va_G} {A : Nat → Prop} {Q : State → Prop} {cy : Nat → ClassId} {ad fad : Nat → Nat} {σ : St_} {res : Int32} (C : vv_X p s m args meth c D (tysW cy) A 4 cX4_visitsBy RX4 wsX4_visitsBy) (h0 : eX A s) (hr : rt_I p l e rmX4_visitsBy s m args below meth c D A 4 Q cX4_visitsBy .int (wX cy ad fad σ) res) : ∀ (n : Nat) (x1 : Int32) (x2 : Int32) (x3 : Int32), fX4_visitsBy_4 σ  n x1 x2 x3 = some res → vv_ p l e rmX4_visitsBy s m args below meth c D A 4 Q 0 0 (wX cy ad fad σ) [(0, .ref (ad 26)), (1, .int x1), (2, .int x2), (3, .int x3)] 4 [] := by
  intro n
  induction n with
  | zero =>
    intro x1 x2 x3 hF
    cases (show none = some res from hF)
  | succ n ih =>
    intro x1 x2 x3 hF
    replace hF : ((if 10 ≤ x3 then some x2 else (bn_ (fX4_isVisitor x1 x3 σ) fun r1 => (bn_ (fX5_oneIf r1) fun r2 => fX4_visitsBy_4 σ  n x1 (x2 + r2) (x3 + 1)))) : Option Int32) = some res := hF
    refine vv_iload_n C dX4_visitsBy_4 3 rfl ?_
    refine vv_bipush (v := 10) C dX4_visitsBy_5 (by decide) ?_
    refine vv_icmp_ge (tgt := 28) C dX4_visitsBy_7 (by decide) hF (fun c3 hF => ?_) (fun c3 hF => ?_)
    · refine vv_iload_n C dX4_visitsBy_28 2 rfl ?_
      cases hF
      exact hr _ _ dX4_visitsBy_29 rfl
    · refine vv_iload_n C dX4_visitsBy_10 2 rfl ?_
      refine vv_aload_n C dX4_visitsBy_11 0 rfl ?_
      refine vv_iload_n C dX4_visitsBy_12 1 rfl ?_
      refine vv_iload_n C dX4_visitsBy_13 3 rfl ?_
      refine vv_callVi (fun r1 => r1) (fun r1 => (wX cy ad fad σ)) C eX_ok h0 [.int x1, .int x3] [.int x2] 2 hF (fun r1 hr1 => kX4_isVisitor l D cy ad fad x1 x3 σ r1  hr1) gX4_visitsBy_X4_isVisitor rfl rfl rfl (by decide +kernel) ⟨by decide, by decide⟩ 26 (wX_g26 cy ad fad _) rfl rfl rfl (Nat.le_of_ble_eq_true rfl) dX4_visitsBy_14 ⟨by decide, by decide⟩ (fun r1 hqr1 hF => ?_)
      refine vv_callNi (fun r2 => r2) (fun r2 => (wX cy ad fad σ)) C eX_ok h0 [.int r1] [.int x2] 1 hF (fun r2 hr2 => kX5_oneIf l D (tysW cy) eX_ok (wX cy ad fad σ) r1 r2  hr2) gX4_visitsBy_X5_oneIf_n40 (eX_nX4_40 h0) (List.mem_of_getElem? (i := 8) rfl) (List.mem_of_getElem? (i := 10) rfl) rfl rfl rfl (by decide +kernel) ⟨by decide, by decide⟩ rfl rfl (Nat.le_of_ble_eq_true rfl) dX4_visitsBy_17 ⟨by decide, by decide⟩ (fun r2 hqr2 hF => ?_)
      refine vv_iadd C dX4_visitsBy_20 ?_
      refine vv_istore_n (lv' := [(2, .int (x2 + r2)), (0, .ref (ad 26)), (1, .int x1), (3, .int x3)]) C dX4_visitsBy_21 (by decide) rfl ?_
      refine vv_iinc (q := 3) (v := x3 + 1) (lv' := [(3, .int (x3 + 1)), (2, .int (x2 + r2)), (0, .ref (ad 26)), (1, .int x1)]) C dX4_visitsBy_22 rfl rfl (by decide) rfl ?_
      refine vv_goto (tgt := 4) C dX4_visitsBy_25 (by decide) ?_
      refine vv_lv [2, 3, 1, 0] rfl ?_
      exact ih x1 (x2 + r2) (x3 + 1)  hF
set_option maxHeartbeats 4000000 in
set_option maxRecDepth 20000 in
theorem kX4_visitsBy (l : Launch) (D : va_G) (cy : Nat → ClassId) (ad fad : Nat → Nat) (x1 : Int32) (σ : St_) (res : Int32)  (hF : fX4_visitsBy x1 σ = some res) : ct_I l D (tysW cy) eX yX4_visitsBy wsX4_visitsBy rmX4_visitsBy [.ref (ad 26), .int x1] (wX cy ad fad σ) res (wX cy ad fad σ) := by
  refine mt_I (by decide) rfl (Nat.le_of_ble_eq_true rfl) ?_
  intro p e s m args below meth c A Q C h0 hr
  replace C : vv_X p s m args meth c D (tysW cy) A 4 cX4_visitsBy RX4 wsX4_visitsBy := C
  replace hF : (fX4_visitsBy_4 σ  FU_ x1 0 0 : Option Int32) = some res := hF
  refine vv_lv [0, 1] (lv' := [(0, .ref (ad 26)), (1, .int x1)]) rfl ?_
  refine vv_iconst (v := 0) C dX4_visitsBy_0 (by decide) ?_
  refine vv_istore_n (lv' := [(2, .int 0), (0, .ref (ad 26)), (1, .int x1)]) C dX4_visitsBy_1 (by decide) rfl ?_
  refine vv_iconst (v := 0) C dX4_visitsBy_2 (by decide) ?_
  refine vv_istore_n (lv' := [(3, .int 0), (2, .int 0), (0, .ref (ad 26)), (1, .int x1)]) C dX4_visitsBy_3 (by decide) rfl ?_
  refine vv_lv [2, 3, 1, 0] rfl ?_
  exact vX4_visitsBy_4 C h0 hr  FU_ x1 0 0  hF
/-! X4_total -/
abbrev rmX4_total : Room := { frames := 2, cells := 0, slots := 0, locals := 41 }
def fX4_total_4 (σ : St_) : Nat → Int32 → Int32 → Option Int32
  | 0, _, _ => none
  | n + 1, x1, x2 => (if 10 ≤ x2 then some x1 else (bn_ (fX4_visitorCount x2 σ) fun r1 => fX4_total_4 σ  n (x1 + r1) (x2 + 1)))
def fX4_total (σ : St_) : Option Int32 := fX4_total_4 σ  FU_ 0 0
set_option maxHeartbeats 4000000 in
set_option maxRecDepth 20000 in
theorem vX4_total_4 {p : Program} {l : Launch} {e : Env} {s : State} {m : MethodId} {args : Array Value} {below : List Frame} {meth : Method} {c : Code} {D : va_G} {A : Nat → Prop} {Q : State → Prop} {cy : Nat → ClassId} {ad fad : Nat → Nat} {σ : St_} {res : Int32} (C : vv_X p s m args meth c D (tysW cy) A 3 cX4_total RX4 wsX4_total) (h0 : eX A s) (hr : rt_I p l e rmX4_total s m args below meth c D A 3 Q cX4_total .int (wX cy ad fad σ) res) : ∀ (n : Nat) (x1 : Int32) (x2 : Int32), fX4_total_4 σ  n x1 x2 = some res → vv_ p l e rmX4_total s m args below meth c D A 3 Q 0 0 (wX cy ad fad σ) [(0, .ref (ad 26)), (1, .int x1), (2, .int x2)] 4 [] := by
  intro n
  induction n with
  | zero =>
    intro x1 x2 hF
    cases (show none = some res from hF)
  | succ n ih =>
    intro x1 x2 hF
    replace hF : ((if 10 ≤ x2 then some x1 else (bn_ (fX4_visitorCount x2 σ) fun r1 => fX4_total_4 σ  n (x1 + r1) (x2 + 1))) : Option Int32) = some res := hF
    refine vv_iload_n C dX4_total_4 2 rfl ?_
    refine vv_bipush (v := 10) C dX4_total_5 (by decide) ?_
    refine vv_icmp_ge (tgt := 24) C dX4_total_7 (by decide) hF (fun c2 hF => ?_) (fun c2 hF => ?_)
    · refine vv_iload_n C dX4_total_24 1 rfl ?_
      cases hF
      exact hr _ _ dX4_total_25 rfl
    · refine vv_iload_n C dX4_total_10 1 rfl ?_
      refine vv_aload_n C dX4_total_11 0 rfl ?_
      refine vv_iload_n C dX4_total_12 2 rfl ?_
      refine vv_callVi (fun r1 => r1) (fun r1 => (wX cy ad fad σ)) C eX_ok h0 [.int x2] [.int x1] 1 hF (fun r1 hr1 => kX4_visitorCount l D cy ad fad x2 σ r1  hr1) gX4_total_X4_visitorCount rfl rfl rfl (by decide +kernel) ⟨by decide, by decide⟩ 26 (wX_g26 cy ad fad _) rfl rfl rfl (Nat.le_of_ble_eq_true rfl) dX4_total_13 ⟨by decide, by decide⟩ (fun r1 hqr1 hF => ?_)
      refine vv_iadd C dX4_total_16 ?_
      refine vv_istore_n (lv' := [(1, .int (x1 + r1)), (0, .ref (ad 26)), (2, .int x2)]) C dX4_total_17 (by decide) rfl ?_
      refine vv_iinc (q := 2) (v := x2 + 1) (lv' := [(2, .int (x2 + 1)), (1, .int (x1 + r1)), (0, .ref (ad 26))]) C dX4_total_18 rfl rfl (by decide) rfl ?_
      refine vv_goto (tgt := 4) C dX4_total_21 (by decide) ?_
      refine vv_lv [2, 1, 0] rfl ?_
      exact ih (x1 + r1) (x2 + 1)  hF
set_option maxHeartbeats 4000000 in
set_option maxRecDepth 20000 in
theorem kX4_total (l : Launch) (D : va_G) (cy : Nat → ClassId) (ad fad : Nat → Nat) (σ : St_) (res : Int32)  (hF : fX4_total σ = some res) : ct_I l D (tysW cy) eX yX4_total wsX4_total rmX4_total [.ref (ad 26)] (wX cy ad fad σ) res (wX cy ad fad σ) := by
  refine mt_I (by decide) rfl (Nat.le_of_ble_eq_true rfl) ?_
  intro p e s m args below meth c A Q C h0 hr
  replace C : vv_X p s m args meth c D (tysW cy) A 3 cX4_total RX4 wsX4_total := C
  replace hF : (fX4_total_4 σ  FU_ 0 0 : Option Int32) = some res := hF
  refine vv_lv [0] (lv' := [(0, .ref (ad 26))]) rfl ?_
  refine vv_iconst (v := 0) C dX4_total_0 (by decide) ?_
  refine vv_istore_n (lv' := [(1, .int 0), (0, .ref (ad 26))]) C dX4_total_1 (by decide) rfl ?_
  refine vv_iconst (v := 0) C dX4_total_2 (by decide) ?_
  refine vv_istore_n (lv' := [(2, .int 0), (1, .int 0), (0, .ref (ad 26))]) C dX4_total_3 (by decide) rfl ?_
  refine vv_lv [2, 1, 0] rfl ?_
  exact vX4_total_4 C h0 hr  FU_ 0 0  hF
/-! X4_visitorAt -/
abbrev rmX4_visitorAt : Room := { frames := 2, cells := 0, slots := 0, locals := 43 }
def fX4_visitorAt_33 (σ : St_) (k5 : Int32 → Int32 → Int32 → Int32 → Option Int32) (x1 : Int32) (x2 : Int32) (x3 : Int32) (x4 : Int32) : Option Int32 := k5 x1 x2 x3 (x4 + 1)
def fX4_visitorAt_5 (σ : St_) : Nat → Int32 → Int32 → Int32 → Int32 → Option Int32
  | 0, _, _, _, _ => none
  | n + 1, x1, x2, x3, x4 => (if 10 ≤ x4 then some (-1) else (bn_ (fX4_isVisitor x4 x1 σ) fun r1 => (if r1 = 0 then fX4_visitorAt_33 σ (fX4_visitorAt_5 σ  n) x1 x2 x3 x4 else (if x3 = x2 then some x4 else fX4_visitorAt_33 σ (fX4_visitorAt_5 σ  n) x1 x2 (x3 + 1) x4))))
def fX4_visitorAt (x1 : Int32) (x2 : Int32) (σ : St_) : Option Int32 := fX4_visitorAt_5 σ  FU_ x1 x2 0 0
set_option maxHeartbeats 4000000 in
set_option maxRecDepth 20000 in
theorem vX4_visitorAt_33 {p : Program} {l : Launch} {e : Env} {s : State} {m : MethodId} {args : Array Value} {below : List Frame} {meth : Method} {c : Code} {D : va_G} {A : Nat → Prop} {Q : State → Prop} {cy : Nat → ClassId} {ad fad : Nat → Nat} {k5 : Int32 → Int32 → Int32 → Int32 → Option Int32} {σ : St_} {res : Int32} (C : vv_X p s m args meth c D (tysW cy) A 5 cX4_visitorAt RX4 wsX4_visitorAt) (h0 : eX A s) (hr : rt_I p l e rmX4_visitorAt s m args below meth c D A 5 Q cX4_visitorAt .int (wX cy ad fad σ) res) (hk5 : ∀ (x1 : Int32) (x2 : Int32) (x3 : Int32) (x4 : Int32), k5 x1 x2 x3 x4 = some res → vv_ p l e rmX4_visitorAt s m args below meth c D A 5 Q 0 0 (wX cy ad fad σ) [(0, .ref (ad 26)), (1, .int x1), (2, .int x2), (3, .int x3), (4, .int x4)] 5 []) : ∀ (x1 : Int32) (x2 : Int32) (x3 : Int32) (x4 : Int32), fX4_visitorAt_33 σ k5 x1 x2 x3 x4 = some res → vv_ p l e rmX4_visitorAt s m args below meth c D A 5 Q 0 0 (wX cy ad fad σ) [(0, .ref (ad 26)), (1, .int x1), (2, .int x2), (3, .int x3), (4, .int x4)] 33 [] := by
  intro x1 x2 x3 x4 hF
  replace hF : (k5 x1 x2 x3 (x4 + 1) : Option Int32) = some res := hF
  refine vv_iinc (q := 4) (v := x4 + 1) (lv' := [(4, .int (x4 + 1)), (0, .ref (ad 26)), (1, .int x1), (2, .int x2), (3, .int x3)]) C dX4_visitorAt_33 rfl rfl (by decide) rfl ?_
  refine vv_goto (tgt := 5) C dX4_visitorAt_36 (by decide) ?_
  refine vv_lv [1, 2, 3, 4, 0] rfl ?_
  exact hk5 x1 x2 x3 (x4 + 1)  hF
set_option maxHeartbeats 4000000 in
set_option maxRecDepth 20000 in
theorem vX4_visitorAt_5 {p : Program} {l : Launch} {e : Env} {s : State} {m : MethodId} {args : Array Value} {below : List Frame} {meth : Method} {c : Code} {D : va_G} {A : Nat → Prop} {Q : State → Prop} {cy : Nat → ClassId} {ad fad : Nat → Nat} {σ : St_} {res : Int32} (C : vv_X p s m args meth c D (tysW cy) A 5 cX4_visitorAt RX4 wsX4_visitorAt) (h0 : eX A s) (hr : rt_I p l e rmX4_visitorAt s m args below meth c D A 5 Q cX4_visitorAt .int (wX cy ad fad σ) res) : ∀ (n : Nat) (x1 : Int32) (x2 : Int32) (x3 : Int32) (x4 : Int32), fX4_visitorAt_5 σ  n x1 x2 x3 x4 = some res → vv_ p l e rmX4_visitorAt s m args below meth c D A 5 Q 0 0 (wX cy ad fad σ) [(0, .ref (ad 26)), (1, .int x1), (2, .int x2), (3, .int x3), (4, .int x4)] 5 [] := by
  intro n
  induction n with
  | zero =>
    intro x1 x2 x3 x4 hF
    cases (show none = some res from hF)
  | succ n ih =>
    intro x1 x2 x3 x4 hF
    replace hF : ((if 10 ≤ x4 then some (-1) else (bn_ (fX4_isVisitor x4 x1 σ) fun r1 => (if r1 = 0 then fX4_visitorAt_33 σ (fX4_visitorAt_5 σ  n) x1 x2 x3 x4 else (if x3 = x2 then some x4 else fX4_visitorAt_33 σ (fX4_visitorAt_5 σ  n) x1 x2 (x3 + 1) x4)))) : Option Int32) = some res := hF
    refine vv_iload C dX4_visitorAt_5 4 rfl ?_
    refine vv_bipush (v := 10) C dX4_visitorAt_7 (by decide) ?_
    refine vv_icmp_ge (tgt := 39) C dX4_visitorAt_9 (by decide) hF (fun c4 hF => ?_) (fun c4 hF => ?_)
    · refine vv_iconst (v := (-1)) C dX4_visitorAt_39 (by decide) ?_
      cases hF
      exact hr _ _ dX4_visitorAt_40 rfl
    · refine vv_aload_n C dX4_visitorAt_12 0 rfl ?_
      refine vv_iload C dX4_visitorAt_13 4 rfl ?_
      refine vv_iload_n C dX4_visitorAt_15 1 rfl ?_
      refine vv_callVi (fun r1 => r1) (fun r1 => (wX cy ad fad σ)) C eX_ok h0 [.int x4, .int x1] [] 2 hF (fun r1 hr1 => kX4_isVisitor l D cy ad fad x4 x1 σ r1  hr1) gX4_visitorAt_X4_isVisitor rfl rfl rfl (by decide +kernel) ⟨by decide, by decide⟩ 26 (wX_g26 cy ad fad _) rfl rfl rfl (Nat.le_of_ble_eq_true rfl) dX4_visitorAt_16 ⟨by decide, by decide⟩ (fun r1 hqr1 hF => ?_)
      refine vv_if_eq (tgt := 33) C dX4_visitorAt_19 (by decide) hF (fun c3 hF => ?_) (fun c3 hF => ?_)
      · refine vv_lv [0, 1, 2, 3, 4] rfl ?_
        exact vX4_visitorAt_33 C h0 hr (ih) x1 x2 x3 x4  hF
      · refine vv_iload_n C dX4_visitorAt_22 3 rfl ?_
        refine vv_iload_n C dX4_visitorAt_23 2 rfl ?_
        refine vv_icmp_ne (tgt := 30) C dX4_visitorAt_24 (by decide) hF (fun c2 hF => ?_) (fun c2 hF => ?_)
        · refine vv_iinc (q := 3) (v := x3 + 1) (lv' := [(3, .int (x3 + 1)), (0, .ref (ad 26)), (1, .int x1), (2, .int x2), (4, .int x4)]) C dX4_visitorAt_30 rfl rfl (by decide) rfl ?_
          refine vv_lv [1, 2, 3, 0, 4] rfl ?_
          exact vX4_visitorAt_33 C h0 hr (ih) x1 x2 (x3 + 1) x4  hF
        · refine vv_iload C dX4_visitorAt_27 4 rfl ?_
          cases hF
          exact hr _ _ dX4_visitorAt_29 rfl
set_option maxHeartbeats 4000000 in
set_option maxRecDepth 20000 in
theorem kX4_visitorAt (l : Launch) (D : va_G) (cy : Nat → ClassId) (ad fad : Nat → Nat) (x1 : Int32) (x2 : Int32) (σ : St_) (res : Int32)  (hF : fX4_visitorAt x1 x2 σ = some res) : ct_I l D (tysW cy) eX yX4_visitorAt wsX4_visitorAt rmX4_visitorAt [.ref (ad 26), .int x1, .int x2] (wX cy ad fad σ) res (wX cy ad fad σ) := by
  refine mt_I (by decide) rfl (Nat.le_of_ble_eq_true rfl) ?_
  intro p e s m args below meth c A Q C h0 hr
  replace C : vv_X p s m args meth c D (tysW cy) A 5 cX4_visitorAt RX4 wsX4_visitorAt := C
  replace hF : (fX4_visitorAt_5 σ  FU_ x1 x2 0 0 : Option Int32) = some res := hF
  refine vv_lv [0, 1, 2] (lv' := [(0, .ref (ad 26)), (1, .int x1), (2, .int x2)]) rfl ?_
  refine vv_iconst (v := 0) C dX4_visitorAt_0 (by decide) ?_
  refine vv_istore_n (lv' := [(3, .int 0), (0, .ref (ad 26)), (1, .int x1), (2, .int x2)]) C dX4_visitorAt_1 (by decide) rfl ?_
  refine vv_iconst (v := 0) C dX4_visitorAt_2 (by decide) ?_
  refine vv_istore (lv' := [(4, .int 0), (3, .int 0), (0, .ref (ad 26)), (1, .int x1), (2, .int x2)]) C dX4_visitorAt_3 (by decide) rfl ?_
  refine vv_lv [2, 3, 4, 1, 0] rfl ?_
  exact vX4_visitorAt_5 C h0 hr  FU_ x1 x2 0 0  hF
/-! X4_tell -/
abbrev rmX4_tell : Room := { frames := 0, cells := 0, slots := 0, locals := 0 }
theorem hi_X4_tell_X4 : ∀ w ∈ wsX40, w ∈ wsX4_tell := fun w h => List.mem_cons_of_mem _ (List.mem_append_right _ h)
def fX4_tell (x1 : Int32) (x2 : Int32) (x3 : Int32) (x4 : Int32) (σ : St_) : Option St_ := (if x4 = 0 then (gd_ x2 10 fun j1 => (gd_ x1 10 fun j2 => (gd_ x1 10 fun j3 => some (uM σ (12 + j1) j3 ((sM σ (12 + j1) j2) &&& ((1 <<< (x3 &&& 31)) ^^^ (-1))))))) else (gd_ x2 10 fun j4 => (gd_ x1 10 fun j5 => (gd_ x1 10 fun j6 => some (uM σ (12 + j4) j6 ((sM σ (12 + j4) j5) ||| (1 <<< (x3 &&& 31))))))))
set_option maxHeartbeats 4000000 in
set_option maxRecDepth 20000 in
theorem kX4_tell (l : Launch) (D : va_G) (cy : Nat → ClassId) (ad fad : Nat → Nat) (x1 : Int32) (x2 : Int32) (x3 : Int32) (x4 : Int32) (σ : St_) (res : St_)  (hF : fX4_tell x1 x2 x3 x4 σ = some res) : ct_V l D (tysW cy) eX yX4_tell wsX4_tell rmX4_tell [.ref (ad 26), .int x1, .int x2, .int x3, .int x4] (wX cy ad fad σ) (wX cy ad fad res) := by
  refine mt_V (by decide) rfl (Nat.le_of_ble_eq_true rfl) ?_
  intro p e s m args below meth c A Q C h0 hr
  replace C : vv_X p s m args meth c D (tysW cy) A 5 cX4_tell RX4 wsX4_tell := C
  replace hF : ((if x4 = 0 then (gd_ x2 10 fun j1 => (gd_ x1 10 fun j2 => (gd_ x1 10 fun j3 => some (uM σ (12 + j1) j3 ((sM σ (12 + j1) j2) &&& ((1 <<< (x3 &&& 31)) ^^^ (-1))))))) else (gd_ x2 10 fun j4 => (gd_ x1 10 fun j5 => (gd_ x1 10 fun j6 => some (uM σ (12 + j4) j6 ((sM σ (12 + j4) j5) ||| (1 <<< (x3 &&& 31)))))))) : Option St_) = some res := hF
  refine vv_lv [0, 1, 2, 3, 4] (lv' := [(0, .ref (ad 26)), (1, .int x1), (2, .int x2), (3, .int x3), (4, .int x4)]) rfl ?_
  refine vv_iload C dX4_tell_0 4 rfl ?_
  refine vv_if_eq (tgt := 22) C dX4_tell_2 (by decide) hF (fun c7 hF => ?_) (fun c7 hF => ?_)
  · refine vv_aload_n C dX4_tell_22 0 rfl ?_
    refine vv_get (v := .ref (ad 22)) C (hi_X4_tell_X4) 26 (wX_g26 cy ad fad _) rfl 2 (by decide) (List.mem_of_getElem? (i := 1) rfl) rfl dX4_tell_23 ?_
    refine vv_iload_n C dX4_tell_26 2 rfl ?_
    refine vv_aldA C 22 4 (wX_g22 cy ad fad _) (tysW_4 cy) hF dX4_tell_27 (fun j1 hj1 hF => ?_)
    refine vv_st (st' := [.ref (ad (12 + j1))]) (by rw [if_pos hj1]; rfl) ?_
    refine vv_iload_n C dX4_tell_28 1 rfl ?_
    refine vv_dup2 C dX4_tell_29 rfl rfl ?_
    refine vv_iald C (12 + j1) 0 (wX_row cy ad fad _ _ hj1) (tysW_0 cy) hF dX4_tell_30 (fun j2 hj2 hF => ?_)
    refine vv_iconst (v := 1) C dX4_tell_31 (by decide) ?_
    refine vv_iload_n C dX4_tell_32 3 rfl ?_
    refine vv_ishl C dX4_tell_33 ?_
    refine vv_iconst (v := (-1)) C dX4_tell_34 (by decide) ?_
    refine vv_ixor C dX4_tell_35 ?_
    refine vv_iand C dX4_tell_36 ?_
    refine vv_iast (w' := fun j3 => (wX cy ad fad (uM σ (12 + j1) j3 ((sM σ (12 + j1) j2) &&& ((1 <<< (x3 &&& 31)) ^^^ (-1)))))) C (12 + j1) 0 (wX_row cy ad fad _ _ hj1) (tysW_0 cy) hF dX4_tell_37 (fun _ => wX_rowS _ _ _ _ _ _ hj1) (fun j3 hj3 hF => ?_)
    cases hF
    exact hr _ _ dX4_tell_38
  · refine vv_aload_n C dX4_tell_5 0 rfl ?_
    refine vv_get (v := .ref (ad 22)) C (hi_X4_tell_X4) 26 (wX_g26 cy ad fad _) rfl 2 (by decide) (List.mem_of_getElem? (i := 1) rfl) rfl dX4_tell_6 ?_
    refine vv_iload_n C dX4_tell_9 2 rfl ?_
    refine vv_aldA C 22 4 (wX_g22 cy ad fad _) (tysW_4 cy) hF dX4_tell_10 (fun j4 hj4 hF => ?_)
    refine vv_st (st' := [.ref (ad (12 + j4))]) (by rw [if_pos hj4]; rfl) ?_
    refine vv_iload_n C dX4_tell_11 1 rfl ?_
    refine vv_dup2 C dX4_tell_12 rfl rfl ?_
    refine vv_iald C (12 + j4) 0 (wX_row cy ad fad _ _ hj4) (tysW_0 cy) hF dX4_tell_13 (fun j5 hj5 hF => ?_)
    refine vv_iconst (v := 1) C dX4_tell_14 (by decide) ?_
    refine vv_iload_n C dX4_tell_15 3 rfl ?_
    refine vv_ishl C dX4_tell_16 ?_
    refine vv_ior C dX4_tell_17 ?_
    refine vv_iast (w' := fun j6 => (wX cy ad fad (uM σ (12 + j4) j6 ((sM σ (12 + j4) j5) ||| (1 <<< (x3 &&& 31)))))) C (12 + j4) 0 (wX_row cy ad fad _ _ hj4) (tysW_0 cy) hF dX4_tell_18 (fun _ => wX_rowS _ _ _ _ _ _ hj4) (fun j6 hj6 hF => ?_)
    refine vv_goto (tgt := 38) C dX4_tell_19 (by decide) ?_
    cases hF
    exact hr _ _ dX4_tell_38
/-! X4_breachesAt -/
abbrev rmX4_breachesAt : Room := { frames := 0, cells := 0, slots := 0, locals := 0 }
theorem hi_X4_breachesAt_X4 : ∀ w ∈ wsX40, w ∈ wsX4_breachesAt := fun w h => List.mem_cons_of_mem _ (List.mem_append_right _ h)
def fX4_breachesAt_7 (σ : St_) : Nat → Int32 → Int32 → Int32 → Int32 → Option Int32
  | 0, _, _, _, _ => none
  | n + 1, x1, x2, x3, x4 => (if 10 ≤ x4 then some x3 else (gd_ x1 10 fun j1 => (gd_ x4 10 fun j2 => (gd_ x1 10 fun j3 => (gd_ x4 10 fun j4 => fX4_breachesAt_7 σ  n x1 (x2 ||| (sM σ (12 + j3) j4)) (x3 ||| (x2 &&& (sM σ (12 + j1) j2))) (x4 + 1))))))
def fX4_breachesAt (x1 : Int32) (σ : St_) : Option Int32 := fX4_breachesAt_7 σ  FU_ x1 0 0 0
set_option maxHeartbeats 4000000 in
set_option maxRecDepth 20000 in
theorem vX4_breachesAt_7 {p : Program} {l : Launch} {e : Env} {s : State} {m : MethodId} {args : Array Value} {below : List Frame} {meth : Method} {c : Code} {D : va_G} {A : Nat → Prop} {Q : State → Prop} {cy : Nat → ClassId} {ad fad : Nat → Nat} {σ : St_} {res : Int32} (C : vv_X p s m args meth c D (tysW cy) A 5 cX4_breachesAt RX4 wsX4_breachesAt) (h0 : eX A s) (hr : rt_I p l e rmX4_breachesAt s m args below meth c D A 5 Q cX4_breachesAt .int (wX cy ad fad σ) res) : ∀ (n : Nat) (x1 : Int32) (x2 : Int32) (x3 : Int32) (x4 : Int32), fX4_breachesAt_7 σ  n x1 x2 x3 x4 = some res → vv_ p l e rmX4_breachesAt s m args below meth c D A 5 Q 0 0 (wX cy ad fad σ) [(0, .ref (ad 26)), (1, .int x1), (2, .int x2), (3, .int x3), (4, .int x4)] 7 [] := by
  intro n
  induction n with
  | zero =>
    intro x1 x2 x3 x4 hF
    cases (show none = some res from hF)
  | succ n ih =>
    intro x1 x2 x3 x4 hF
    replace hF : ((if 10 ≤ x4 then some x3 else (gd_ x1 10 fun j1 => (gd_ x4 10 fun j2 => (gd_ x1 10 fun j3 => (gd_ x4 10 fun j4 => fX4_breachesAt_7 σ  n x1 (x2 ||| (sM σ (12 + j3) j4)) (x3 ||| (x2 &&& (sM σ (12 + j1) j2))) (x4 + 1)))))) : Option Int32) = some res := hF
    refine vv_iload C dX4_breachesAt_7 4 rfl ?_
    refine vv_bipush (v := 10) C dX4_breachesAt_9 (by decide) ?_
    refine vv_icmp_ge (tgt := 46) C dX4_breachesAt_11 (by decide) hF (fun c5 hF => ?_) (fun c5 hF => ?_)
    · refine vv_iload_n C dX4_breachesAt_46 3 rfl ?_
      cases hF
      exact hr _ _ dX4_breachesAt_47 rfl
    · refine vv_iload_n C dX4_breachesAt_14 3 rfl ?_
      refine vv_iload_n C dX4_breachesAt_15 2 rfl ?_
      refine vv_aload_n C dX4_breachesAt_16 0 rfl ?_
      refine vv_get (v := .ref (ad 22)) C (hi_X4_breachesAt_X4) 26 (wX_g26 cy ad fad _) rfl 2 (by decide) (List.mem_of_getElem? (i := 1) rfl) rfl dX4_breachesAt_17 ?_
      refine vv_iload_n C dX4_breachesAt_20 1 rfl ?_
      refine vv_aldA C 22 4 (wX_g22 cy ad fad _) (tysW_4 cy) hF dX4_breachesAt_21 (fun j1 hj1 hF => ?_)
      refine vv_st (st' := [.ref (ad (12 + j1)), .int x2, .int x3]) (by rw [if_pos hj1]; rfl) ?_
      refine vv_iload C dX4_breachesAt_22 4 rfl ?_
      refine vv_iald C (12 + j1) 0 (wX_row cy ad fad _ _ hj1) (tysW_0 cy) hF dX4_breachesAt_24 (fun j2 hj2 hF => ?_)
      refine vv_iand C dX4_breachesAt_25 ?_
      refine vv_ior C dX4_breachesAt_26 ?_
      refine vv_istore_n (lv' := [(3, .int (x3 ||| (x2 &&& (sM σ (12 + j1) j2)))), (0, .ref (ad 26)), (1, .int x1), (2, .int x2), (4, .int x4)]) C dX4_breachesAt_27 (by decide) rfl ?_
      refine vv_iload_n C dX4_breachesAt_28 3 rfl ?_
      refine vv_aload_n C dX4_breachesAt_29 1 rfl ?_
      refine vv_get (v := .ref (ad 22)) C (hi_X4_breachesAt_X4) 26 (wX_g26 cy ad fad _) rfl 2 (by decide) (List.mem_of_getElem? (i := 1) rfl) rfl dX4_breachesAt_30 ?_
      refine vv_iload_n C dX4_breachesAt_33 2 rfl ?_
      refine vv_aldA C 22 4 (wX_g22 cy ad fad _) (tysW_4 cy) hF dX4_breachesAt_34 (fun j3 hj3 hF => ?_)
      refine vv_st (st' := [.ref (ad (12 + j3)), .int x2]) (by rw [if_pos hj3]; rfl) ?_
      refine vv_iload C dX4_breachesAt_35 4 rfl ?_
      refine vv_iald C (12 + j3) 0 (wX_row cy ad fad _ _ hj3) (tysW_0 cy) hF dX4_breachesAt_37 (fun j4 hj4 hF => ?_)
      refine vv_ior C dX4_breachesAt_38 ?_
      refine vv_istore_n (lv' := [(2, .int (x2 ||| (sM σ (12 + j3) j4))), (3, .int (x3 ||| (x2 &&& (sM σ (12 + j1) j2)))), (0, .ref (ad 26)), (1, .int x1), (4, .int x4)]) C dX4_breachesAt_39 (by decide) rfl ?_
      refine vv_iinc (q := 4) (v := x4 + 1) (lv' := [(4, .int (x4 + 1)), (2, .int (x2 ||| (sM σ (12 + j3) j4))), (3, .int (x3 ||| (x2 &&& (sM σ (12 + j1) j2)))), (0, .ref (ad 26)), (1, .int x1)]) C dX4_breachesAt_40 rfl rfl (by decide) rfl ?_
      refine vv_goto (tgt := 7) C dX4_breachesAt_43 (by decide) ?_
      refine vv_lv [3, 4, 1, 2, 0] rfl ?_
      exact ih x1 (x2 ||| (sM σ (12 + j3) j4)) (x3 ||| (x2 &&& (sM σ (12 + j1) j2))) (x4 + 1)  hF
set_option maxHeartbeats 4000000 in
set_option maxRecDepth 20000 in
theorem kX4_breachesAt (l : Launch) (D : va_G) (cy : Nat → ClassId) (ad fad : Nat → Nat) (x1 : Int32) (σ : St_) (res : Int32)  (hF : fX4_breachesAt x1 σ = some res) : ct_I l D (tysW cy) eX yX4_breachesAt wsX4_breachesAt rmX4_breachesAt [.ref (ad 26), .int x1] (wX cy ad fad σ) res (wX cy ad fad σ) := by
  refine mt_I (by decide) rfl (Nat.le_of_ble_eq_true rfl) ?_
  intro p e s m args below meth c A Q C h0 hr
  replace C : vv_X p s m args meth c D (tysW cy) A 5 cX4_breachesAt RX4 wsX4_breachesAt := C
  replace hF : (fX4_breachesAt_7 σ  FU_ x1 0 0 0 : Option Int32) = some res := hF
  refine vv_lv [0, 1] (lv' := [(0, .ref (ad 26)), (1, .int x1)]) rfl ?_
  refine vv_iconst (v := 0) C dX4_breachesAt_0 (by decide) ?_
  refine vv_istore_n (lv' := [(2, .int 0), (0, .ref (ad 26)), (1, .int x1)]) C dX4_breachesAt_1 (by decide) rfl ?_
  refine vv_iconst (v := 0) C dX4_breachesAt_2 (by decide) ?_
  refine vv_istore_n (lv' := [(3, .int 0), (2, .int 0), (0, .ref (ad 26)), (1, .int x1)]) C dX4_breachesAt_3 (by decide) rfl ?_
  refine vv_iconst (v := 0) C dX4_breachesAt_4 (by decide) ?_
  refine vv_istore (lv' := [(4, .int 0), (3, .int 0), (2, .int 0), (0, .ref (ad 26)), (1, .int x1)]) C dX4_breachesAt_5 (by decide) rfl ?_
  refine vv_lv [3, 4, 2, 1, 0] rfl ?_
  exact vX4_breachesAt_7 C h0 hr  FU_ x1 0 0 0  hF
/-! X4_vouchersFor -/
abbrev rmX4_vouchersFor : Room := { frames := 0, cells := 0, slots := 0, locals := 0 }
theorem hi_X4_vouchersFor_X4 : ∀ w ∈ wsX40, w ∈ wsX4_vouchersFor := fun w h => List.mem_cons_of_mem _ (List.mem_append_right _ h)
def fX4_vouchersFor_34 (σ : St_) (k9 : Int32 → Int32 → Int32 → Option Int32) (x1 : Int32) (x2 : Int32) (x3 : Int32) : Option Int32 := k9 x1 x2 (x3 + 1)
def fX4_vouchersFor_9 (σ : St_) : Nat → Int32 → Int32 → Int32 → Option Int32
  | 0, _, _, _ => none
  | n + 1, x1, x2, x3 => (if 10 ≤ x3 then some x2 else (gd_ x1 10 fun j2 => (gd_ x3 10 fun j3 => (if (sM σ (12 + j2) j3) = 0 then fX4_vouchersFor_34 σ (fX4_vouchersFor_9 σ  n) x1 x2 x3 else fX4_vouchersFor_34 σ (fX4_vouchersFor_9 σ  n) x1 (x2 &&& ((1 <<< (x3 &&& 31)) ^^^ (-1))) x3))))
def fX4_vouchersFor (x1 : Int32) (σ : St_) : Option Int32 := (gd_ x1 10 fun j1 => fX4_vouchersFor_9 σ  FU_ x1 (sM σ 3 j1) 0)
set_option maxHeartbeats 4000000 in
set_option maxRecDepth 20000 in
theorem vX4_vouchersFor_34 {p : Program} {l : Launch} {e : Env} {s : State} {m : MethodId} {args : Array Value} {below : List Frame} {meth : Method} {c : Code} {D : va_G} {A : Nat → Prop} {Q : State → Prop} {cy : Nat → ClassId} {ad fad : Nat → Nat} {k9 : Int32 → Int32 → Int32 → Option Int32} {σ : St_} {res : Int32} (C : vv_X p s m args meth c D (tysW cy) A 4 cX4_vouchersFor RX4 wsX4_vouchersFor) (h0 : eX A s) (hr : rt_I p l e rmX4_vouchersFor s m args below meth c D A 4 Q cX4_vouchersFor .int (wX cy ad fad σ) res) (hk9 : ∀ (x1 : Int32) (x2 : Int32) (x3 : Int32), k9 x1 x2 x3 = some res → vv_ p l e rmX4_vouchersFor s m args below meth c D A 4 Q 0 0 (wX cy ad fad σ) [(0, .ref (ad 26)), (1, .int x1), (2, .int x2), (3, .int x3)] 9 []) : ∀ (x1 : Int32) (x2 : Int32) (x3 : Int32), fX4_vouchersFor_34 σ k9 x1 x2 x3 = some res → vv_ p l e rmX4_vouchersFor s m args below meth c D A 4 Q 0 0 (wX cy ad fad σ) [(0, .ref (ad 26)), (1, .int x1), (2, .int x2), (3, .int x3)] 34 [] := by
  intro x1 x2 x3 hF
  replace hF : (k9 x1 x2 (x3 + 1) : Option Int32) = some res := hF
  refine vv_iinc (q := 3) (v := x3 + 1) (lv' := [(3, .int (x3 + 1)), (0, .ref (ad 26)), (1, .int x1), (2, .int x2)]) C dX4_vouchersFor_34 rfl rfl (by decide) rfl ?_
  refine vv_goto (tgt := 9) C dX4_vouchersFor_37 (by decide) ?_
  refine vv_lv [1, 2, 3, 0] rfl ?_
  exact hk9 x1 x2 (x3 + 1)  hF
set_option maxHeartbeats 4000000 in
set_option maxRecDepth 20000 in
theorem vX4_vouchersFor_9 {p : Program} {l : Launch} {e : Env} {s : State} {m : MethodId} {args : Array Value} {below : List Frame} {meth : Method} {c : Code} {D : va_G} {A : Nat → Prop} {Q : State → Prop} {cy : Nat → ClassId} {ad fad : Nat → Nat} {σ : St_} {res : Int32} (C : vv_X p s m args meth c D (tysW cy) A 4 cX4_vouchersFor RX4 wsX4_vouchersFor) (h0 : eX A s) (hr : rt_I p l e rmX4_vouchersFor s m args below meth c D A 4 Q cX4_vouchersFor .int (wX cy ad fad σ) res) : ∀ (n : Nat) (x1 : Int32) (x2 : Int32) (x3 : Int32), fX4_vouchersFor_9 σ  n x1 x2 x3 = some res → vv_ p l e rmX4_vouchersFor s m args below meth c D A 4 Q 0 0 (wX cy ad fad σ) [(0, .ref (ad 26)), (1, .int x1), (2, .int x2), (3, .int x3)] 9 [] := by
  intro n
  induction n with
  | zero =>
    intro x1 x2 x3 hF
    cases (show none = some res from hF)
  | succ n ih =>
    intro x1 x2 x3 hF
    replace hF : ((if 10 ≤ x3 then some x2 else (gd_ x1 10 fun j2 => (gd_ x3 10 fun j3 => (if (sM σ (12 + j2) j3) = 0 then fX4_vouchersFor_34 σ (fX4_vouchersFor_9 σ  n) x1 x2 x3 else fX4_vouchersFor_34 σ (fX4_vouchersFor_9 σ  n) x1 (x2 &&& ((1 <<< (x3 &&& 31)) ^^^ (-1))) x3)))) : Option Int32) = some res := hF
    refine vv_iload_n C dX4_vouchersFor_9 3 rfl ?_
    refine vv_bipush (v := 10) C dX4_vouchersFor_10 (by decide) ?_
    refine vv_icmp_ge (tgt := 40) C dX4_vouchersFor_12 (by decide) hF (fun c5 hF => ?_) (fun c5 hF => ?_)
    · refine vv_iload_n C dX4_vouchersFor_40 2 rfl ?_
      cases hF
      exact hr _ _ dX4_vouchersFor_41 rfl
    · refine vv_aload_n C dX4_vouchersFor_15 0 rfl ?_
      refine vv_get (v := .ref (ad 22)) C (hi_X4_vouchersFor_X4) 26 (wX_g26 cy ad fad _) rfl 2 (by decide) (List.mem_of_getElem? (i := 2) rfl) rfl dX4_vouchersFor_16 ?_
      refine vv_iload_n C dX4_vouchersFor_19 1 rfl ?_
      refine vv_aldA C 22 4 (wX_g22 cy ad fad _) (tysW_4 cy) hF dX4_vouchersFor_20 (fun j2 hj2 hF => ?_)
      refine vv_st (st' := [.ref (ad (12 + j2))]) (by rw [if_pos hj2]; rfl) ?_
      refine vv_iload_n C dX4_vouchersFor_21 3 rfl ?_
      refine vv_iald C (12 + j2) 0 (wX_row cy ad fad _ _ hj2) (tysW_0 cy) hF dX4_vouchersFor_22 (fun j3 hj3 hF => ?_)
      refine vv_if_eq (tgt := 34) C dX4_vouchersFor_23 (by decide) hF (fun c4 hF => ?_) (fun c4 hF => ?_)
      · refine vv_lv [0, 1, 2, 3] rfl ?_
        exact vX4_vouchersFor_34 C h0 hr (ih) x1 x2 x3  hF
      · refine vv_iload_n C dX4_vouchersFor_26 2 rfl ?_
        refine vv_iconst (v := 1) C dX4_vouchersFor_27 (by decide) ?_
        refine vv_iload_n C dX4_vouchersFor_28 3 rfl ?_
        refine vv_ishl C dX4_vouchersFor_29 ?_
        refine vv_iconst (v := (-1)) C dX4_vouchersFor_30 (by decide) ?_
        refine vv_ixor C dX4_vouchersFor_31 ?_
        refine vv_iand C dX4_vouchersFor_32 ?_
        refine vv_istore_n (lv' := [(2, .int (x2 &&& ((1 <<< (x3 &&& 31)) ^^^ (-1)))), (0, .ref (ad 26)), (1, .int x1), (3, .int x3)]) C dX4_vouchersFor_33 (by decide) rfl ?_
        refine vv_lv [1, 2, 0, 3] rfl ?_
        exact vX4_vouchersFor_34 C h0 hr (ih) x1 (x2 &&& ((1 <<< (x3 &&& 31)) ^^^ (-1))) x3  hF
set_option maxHeartbeats 4000000 in
set_option maxRecDepth 20000 in
theorem kX4_vouchersFor (l : Launch) (D : va_G) (cy : Nat → ClassId) (ad fad : Nat → Nat) (x1 : Int32) (σ : St_) (res : Int32)  (hF : fX4_vouchersFor x1 σ = some res) : ct_I l D (tysW cy) eX yX4_vouchersFor wsX4_vouchersFor rmX4_vouchersFor [.ref (ad 26), .int x1] (wX cy ad fad σ) res (wX cy ad fad σ) := by
  refine mt_I (by decide) rfl (Nat.le_of_ble_eq_true rfl) ?_
  intro p e s m args below meth c A Q C h0 hr
  replace C : vv_X p s m args meth c D (tysW cy) A 4 cX4_vouchersFor RX4 wsX4_vouchersFor := C
  replace hF : ((gd_ x1 10 fun j1 => fX4_vouchersFor_9 σ  FU_ x1 (sM σ 3 j1) 0) : Option Int32) = some res := hF
  refine vv_lv [0, 1] (lv' := [(0, .ref (ad 26)), (1, .int x1)]) rfl ?_
  refine vv_aload_n C dX4_vouchersFor_0 0 rfl ?_
  refine vv_get (v := .ref (ad 3)) C (hi_X4_vouchersFor_X4) 26 (wX_g26 cy ad fad _) rfl 0 (by decide) (List.mem_of_getElem? (i := 1) rfl) rfl dX4_vouchersFor_1 ?_
  refine vv_iload_n C dX4_vouchersFor_4 1 rfl ?_
  refine vv_iald C 3 0 (wX_g3 cy ad fad _) (tysW_0 cy) hF dX4_vouchersFor_5 (fun j1 hj1 hF => ?_)
  refine vv_istore_n (lv' := [(2, .int (sM σ 3 j1)), (0, .ref (ad 26)), (1, .int x1)]) C dX4_vouchersFor_6 (by decide) rfl ?_
  refine vv_iconst (v := 0) C dX4_vouchersFor_7 (by decide) ?_
  refine vv_istore_n (lv' := [(3, .int 0), (2, .int (sM σ 3 j1)), (0, .ref (ad 26)), (1, .int x1)]) C dX4_vouchersFor_8 (by decide) rfl ?_
  refine vv_lv [2, 3, 1, 0] rfl ?_
  exact vX4_vouchersFor_9 C h0 hr  FU_ x1 (sM σ 3 j1) 0  hF
/-! X4_vouchedForBy -/
abbrev rmX4_vouchedForBy : Room := { frames := 1, cells := 0, slots := 0, locals := 23 }
def fX4_vouchedForBy_26 (σ : St_) (k4 : Int32 → Int32 → Int32 → Option Int32) (x1 : Int32) (x2 : Int32) (x3 : Int32) : Option Int32 := k4 x1 x2 (x3 + 1)
def fX4_vouchedForBy_4 (σ : St_) : Nat → Int32 → Int32 → Int32 → Option Int32
  | 0, _, _, _ => none
  | n + 1, x1, x2, x3 => (if 10 ≤ x3 then some x2 else (bn_ (fX4_vouchersFor x3 σ) fun r1 => (if (r1 &&& x1) = 0 then fX4_vouchedForBy_26 σ (fX4_vouchedForBy_4 σ  n) x1 x2 x3 else fX4_vouchedForBy_26 σ (fX4_vouchedForBy_4 σ  n) x1 (x2 ||| (1 <<< (x3 &&& 31))) x3)))
def fX4_vouchedForBy (x1 : Int32) (σ : St_) : Option Int32 := fX4_vouchedForBy_4 σ  FU_ x1 0 0
set_option maxHeartbeats 4000000 in
set_option maxRecDepth 20000 in
theorem vX4_vouchedForBy_26 {p : Program} {l : Launch} {e : Env} {s : State} {m : MethodId} {args : Array Value} {below : List Frame} {meth : Method} {c : Code} {D : va_G} {A : Nat → Prop} {Q : State → Prop} {cy : Nat → ClassId} {ad fad : Nat → Nat} {k4 : Int32 → Int32 → Int32 → Option Int32} {σ : St_} {res : Int32} (C : vv_X p s m args meth c D (tysW cy) A 4 cX4_vouchedForBy RX4 wsX4_vouchedForBy) (h0 : eX A s) (hr : rt_I p l e rmX4_vouchedForBy s m args below meth c D A 4 Q cX4_vouchedForBy .int (wX cy ad fad σ) res) (hk4 : ∀ (x1 : Int32) (x2 : Int32) (x3 : Int32), k4 x1 x2 x3 = some res → vv_ p l e rmX4_vouchedForBy s m args below meth c D A 4 Q 0 0 (wX cy ad fad σ) [(0, .ref (ad 26)), (1, .int x1), (2, .int x2), (3, .int x3)] 4 []) : ∀ (x1 : Int32) (x2 : Int32) (x3 : Int32), fX4_vouchedForBy_26 σ k4 x1 x2 x3 = some res → vv_ p l e rmX4_vouchedForBy s m args below meth c D A 4 Q 0 0 (wX cy ad fad σ) [(0, .ref (ad 26)), (1, .int x1), (2, .int x2), (3, .int x3)] 26 [] := by
  intro x1 x2 x3 hF
  replace hF : (k4 x1 x2 (x3 + 1) : Option Int32) = some res := hF
  refine vv_iinc (q := 3) (v := x3 + 1) (lv' := [(3, .int (x3 + 1)), (0, .ref (ad 26)), (1, .int x1), (2, .int x2)]) C dX4_vouchedForBy_26 rfl rfl (by decide) rfl ?_
  refine vv_goto (tgt := 4) C dX4_vouchedForBy_29 (by decide) ?_
  refine vv_lv [1, 2, 3, 0] rfl ?_
  exact hk4 x1 x2 (x3 + 1)  hF
set_option maxHeartbeats 4000000 in
set_option maxRecDepth 20000 in
theorem vX4_vouchedForBy_4 {p : Program} {l : Launch} {e : Env} {s : State} {m : MethodId} {args : Array Value} {below : List Frame} {meth : Method} {c : Code} {D : va_G} {A : Nat → Prop} {Q : State → Prop} {cy : Nat → ClassId} {ad fad : Nat → Nat} {σ : St_} {res : Int32} (C : vv_X p s m args meth c D (tysW cy) A 4 cX4_vouchedForBy RX4 wsX4_vouchedForBy) (h0 : eX A s) (hr : rt_I p l e rmX4_vouchedForBy s m args below meth c D A 4 Q cX4_vouchedForBy .int (wX cy ad fad σ) res) : ∀ (n : Nat) (x1 : Int32) (x2 : Int32) (x3 : Int32), fX4_vouchedForBy_4 σ  n x1 x2 x3 = some res → vv_ p l e rmX4_vouchedForBy s m args below meth c D A 4 Q 0 0 (wX cy ad fad σ) [(0, .ref (ad 26)), (1, .int x1), (2, .int x2), (3, .int x3)] 4 [] := by
  intro n
  induction n with
  | zero =>
    intro x1 x2 x3 hF
    cases (show none = some res from hF)
  | succ n ih =>
    intro x1 x2 x3 hF
    replace hF : ((if 10 ≤ x3 then some x2 else (bn_ (fX4_vouchersFor x3 σ) fun r1 => (if (r1 &&& x1) = 0 then fX4_vouchedForBy_26 σ (fX4_vouchedForBy_4 σ  n) x1 x2 x3 else fX4_vouchedForBy_26 σ (fX4_vouchedForBy_4 σ  n) x1 (x2 ||| (1 <<< (x3 &&& 31))) x3))) : Option Int32) = some res := hF
    refine vv_iload_n C dX4_vouchedForBy_4 3 rfl ?_
    refine vv_bipush (v := 10) C dX4_vouchedForBy_5 (by decide) ?_
    refine vv_icmp_ge (tgt := 32) C dX4_vouchedForBy_7 (by decide) hF (fun c3 hF => ?_) (fun c3 hF => ?_)
    · refine vv_iload_n C dX4_vouchedForBy_32 2 rfl ?_
      cases hF
      exact hr _ _ dX4_vouchedForBy_33 rfl
    · refine vv_aload_n C dX4_vouchedForBy_10 0 rfl ?_
      refine vv_iload_n C dX4_vouchedForBy_11 3 rfl ?_
      refine vv_callVi (fun r1 => r1) (fun r1 => (wX cy ad fad σ)) C eX_ok h0 [.int x3] [] 1 hF (fun r1 hr1 => kX4_vouchersFor l D cy ad fad x3 σ r1  hr1) gX4_vouchedForBy_X4_vouchersFor rfl rfl rfl (by decide +kernel) ⟨by decide, by decide⟩ 26 (wX_g26 cy ad fad _) rfl rfl rfl (Nat.le_of_ble_eq_true rfl) dX4_vouchedForBy_12 ⟨by decide, by decide⟩ (fun r1 hqr1 hF => ?_)
      refine vv_iload_n C dX4_vouchedForBy_15 1 rfl ?_
      refine vv_iand C dX4_vouchedForBy_16 ?_
      refine vv_if_eq (tgt := 26) C dX4_vouchedForBy_17 (by decide) hF (fun c2 hF => ?_) (fun c2 hF => ?_)
      · refine vv_lv [0, 1, 2, 3] rfl ?_
        exact vX4_vouchedForBy_26 C h0 hr (ih) x1 x2 x3  hF
      · refine vv_iload_n C dX4_vouchedForBy_20 2 rfl ?_
        refine vv_iconst (v := 1) C dX4_vouchedForBy_21 (by decide) ?_
        refine vv_iload_n C dX4_vouchedForBy_22 3 rfl ?_
        refine vv_ishl C dX4_vouchedForBy_23 ?_
        refine vv_ior C dX4_vouchedForBy_24 ?_
        refine vv_istore_n (lv' := [(2, .int (x2 ||| (1 <<< (x3 &&& 31)))), (0, .ref (ad 26)), (1, .int x1), (3, .int x3)]) C dX4_vouchedForBy_25 (by decide) rfl ?_
        refine vv_lv [1, 2, 0, 3] rfl ?_
        exact vX4_vouchedForBy_26 C h0 hr (ih) x1 (x2 ||| (1 <<< (x3 &&& 31))) x3  hF
set_option maxHeartbeats 4000000 in
set_option maxRecDepth 20000 in
theorem kX4_vouchedForBy (l : Launch) (D : va_G) (cy : Nat → ClassId) (ad fad : Nat → Nat) (x1 : Int32) (σ : St_) (res : Int32)  (hF : fX4_vouchedForBy x1 σ = some res) : ct_I l D (tysW cy) eX yX4_vouchedForBy wsX4_vouchedForBy rmX4_vouchedForBy [.ref (ad 26), .int x1] (wX cy ad fad σ) res (wX cy ad fad σ) := by
  refine mt_I (by decide) rfl (Nat.le_of_ble_eq_true rfl) ?_
  intro p e s m args below meth c A Q C h0 hr
  replace C : vv_X p s m args meth c D (tysW cy) A 4 cX4_vouchedForBy RX4 wsX4_vouchedForBy := C
  replace hF : (fX4_vouchedForBy_4 σ  FU_ x1 0 0 : Option Int32) = some res := hF
  refine vv_lv [0, 1] (lv' := [(0, .ref (ad 26)), (1, .int x1)]) rfl ?_
  refine vv_iconst (v := 0) C dX4_vouchedForBy_0 (by decide) ?_
  refine vv_istore_n (lv' := [(2, .int 0), (0, .ref (ad 26)), (1, .int x1)]) C dX4_vouchedForBy_1 (by decide) rfl ?_
  refine vv_iconst (v := 0) C dX4_vouchedForBy_2 (by decide) ?_
  refine vv_istore_n (lv' := [(3, .int 0), (2, .int 0), (0, .ref (ad 26)), (1, .int x1)]) C dX4_vouchedForBy_3 (by decide) rfl ?_
  refine vv_lv [2, 3, 1, 0] rfl ?_
  exact vX4_vouchedForBy_4 C h0 hr  FU_ x1 0 0  hF
