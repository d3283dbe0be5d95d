/-! X2_number -/
abbrev rmX2_number : Room := { frames := 1, cells := 0, slots := 0, locals := 21 }
theorem hi_X2_number_X2 : ∀ w ∈ wsX20, w ∈ wsX2_number := fun w h => List.mem_cons_of_mem _ (List.mem_append_right _ h)
def fX2_number (x1 : Int32) (σ : St_) : Option Int32 := (bn_ (fX5_isBelow x1 6) fun r1 => (if r1 = 0 then some (-1) else (gd_ x1 6 fun j2 => some (sM σ 1 j2))))
set_option maxHeartbeats 4000000 in
set_option maxRecDepth 20000 in
theorem kX2_number (l : Launch) (D : va_G) (cy : Nat → ClassId) (ad fad : Nat → Nat) (x1 : Int32) (σ : St_) (res : Int32)  (hF : fX2_number x1 σ = some res) : ct_I l D (tysW cy) eX yX2_number wsX2_number rmX2_number [.ref (ad 25), .int x1] (wX cy ad fad σ) res (wX cy ad fad σ) := by
  refine mt_I (by decide) rfl (Nat.le_of_ble_eq_true rfl) ?_
  intro p e s m args below meth c A Q C h0 hr
  replace C : vv_X p s m args meth c D (tysW cy) A 2 cX2_number RX2 wsX2_number := C
  replace hF : ((bn_ (fX5_isBelow x1 6) fun r1 => (if r1 = 0 then some (-1) else (gd_ x1 6 fun j2 => some (sM σ 1 j2)))) : Option Int32) = some res := hF
  refine vv_lv [0, 1] (lv' := [(0, .ref (ad 25)), (1, .int x1)]) rfl ?_
  refine vv_iload_n C dX2_number_0 1 rfl ?_
  refine vv_bipush (v := 6) C dX2_number_1 (by decide) ?_
  refine vv_callNi (fun r1 => r1) (fun r1 => (wX cy ad fad σ)) C eX_ok h0 [.int x1, .int 6] [] 2 hF (fun r1 hr1 => kX5_isBelow l D (tysW cy) eX_ok (wX cy ad fad σ) x1 6 r1  hr1) gX2_number_X5_isBelow_n31 (eX_nX2_31 h0) (List.mem_of_getElem? (i := 3) rfl) (List.mem_of_getElem? (i := 2) rfl) rfl rfl rfl (by decide +kernel) ⟨by decide, by decide⟩ rfl rfl (Nat.le_of_ble_eq_true rfl) dX2_number_3 ⟨by decide, by decide⟩ (fun r1 hqr1 hF => ?_)
  refine vv_if_eq (tgt := 18) C dX2_number_6 (by decide) hF (fun c3 hF => ?_) (fun c3 hF => ?_)
  · refine vv_iconst (v := (-1)) C dX2_number_18 (by decide) ?_
    cases hF
    exact hr _ _ dX2_number_19 rfl
  · refine vv_aload_n C dX2_number_9 0 rfl ?_
    refine vv_get (v := .ref (ad 1)) C (hi_X2_number_X2) 25 (wX_g25 cy ad fad _) rfl 0 (by decide) (List.mem_of_getElem? (i := 1) rfl) rfl dX2_number_10 ?_
    refine vv_iload_n C dX2_number_13 1 rfl ?_
    refine vv_iald C 1 0 (wX_g1 cy ad fad _) (tysW_0 cy) hF dX2_number_14 (fun j2 hj2 hF => ?_)
    refine vv_goto (tgt := 19) C dX2_number_15 (by decide) ?_
    cases hF
    exact hr _ _ dX2_number_19 rfl
/-! X0_isOut -/
abbrev rmX0_isOut : Room := { frames := 0, cells := 0, slots := 0, locals := 0 }
theorem hi_X0_isOut_X0 : ∀ w ∈ wsX00, w ∈ wsX0_isOut := fun w h => List.mem_cons_of_mem _ (List.mem_append_right _ h)
def fX0_isOut (i0 : Nat) (σ : St_) : Option Int32 := (if (sF σ i0 4) ≤ 0 then some 0 else some 1)
set_option maxHeartbeats 4000000 in
set_option maxRecDepth 20000 in
theorem kX0_isOut (l : Launch) (D : va_G) (cy : Nat → ClassId) (ad fad : Nat → Nat) (i0 : Nat) (σ : St_) (res : Int32) (hi0 : i0 < sN σ) (hF : fX0_isOut i0 σ = some res) : ct_I l D (tysW cy) eX yX0_isOut wsX0_isOut rmX0_isOut [.ref (fad i0)] (wX cy ad fad σ) res (wX cy ad fad σ) := by
  refine mt_I (by decide) rfl (Nat.le_of_ble_eq_true rfl) ?_
  intro p e s m args below meth c A Q C h0 hr
  replace C : vv_X p s m args meth c D (tysW cy) A 1 cX0_isOut RX0 wsX0_isOut := C
  replace hF : ((if (sF σ i0 4) ≤ 0 then some 0 else some 1) : Option Int32) = some res := hF
  refine vv_lv [0] (lv' := [(0, .ref (fad i0))]) rfl ?_
  refine vv_aload_n C dX0_isOut_0 0 rfl ?_
  refine vv_get (v := .int (sF σ i0 4)) C (hi_X0_isOut_X0) (29 + i0) (wX_farm cy ad fad σ hi0) rfl 4 (by decide) (List.mem_of_getElem? (i := 1) rfl) rfl dX0_isOut_1 ?_
  refine vv_if_le (tgt := 11) C dX0_isOut_4 (by decide) hF (fun c1 hF => ?_) (fun c1 hF => ?_)
  · refine vv_iconst (v := 0) C dX0_isOut_11 (by decide) ?_
    cases hF
    exact hr _ _ dX0_isOut_12 nb_Z0
  · refine vv_iconst (v := 1) C dX0_isOut_7 (by decide) ?_
    refine vv_goto (tgt := 12) C dX0_isOut_8 (by decide) ?_
    cases hF
    exact hr _ _ dX0_isOut_12 nb_Z1
/-! X0_sellBaskets -/
abbrev rmX0_sellBaskets : Room := { frames := 0, cells := 0, slots := 0, locals := 0 }
theorem hi_X0_sellBaskets_X0 : ∀ w ∈ wsX00, w ∈ wsX0_sellBaskets := fun w h => List.mem_cons_of_mem _ (List.mem_append_right _ h)
def fX0_sellBaskets (i0 : Nat) (x1 : Int32) (σ : St_) : Option St_ := some (uF (uF σ i0 5 ((sF σ i0 5) + x1)) i0 6 ((sF (uF σ i0 5 ((sF σ i0 5) + x1)) i0 6) + x1))
set_option maxHeartbeats 4000000 in
set_option maxRecDepth 20000 in
theorem kX0_sellBaskets (l : Launch) (D : va_G) (cy : Nat → ClassId) (ad fad : Nat → Nat) (i0 : Nat) (x1 : Int32) (σ : St_) (res : St_) (hi0 : i0 < sN σ) (hF : fX0_sellBaskets i0 x1 σ = some res) : ct_V l D (tysW cy) eX yX0_sellBaskets wsX0_sellBaskets rmX0_sellBaskets [.ref (fad i0), .int x1] (wX cy ad fad σ) (wX cy ad fad res) := by
  refine mt_V (by decide) rfl (Nat.le_of_ble_eq_true rfl) ?_
  intro p e s m args below meth c A Q C h0 hr
  replace C : vv_X p s m args meth c D (tysW cy) A 2 cX0_sellBaskets RX0 wsX0_sellBaskets := C
  replace hF : (some (uF (uF σ i0 5 ((sF σ i0 5) + x1)) i0 6 ((sF (uF σ i0 5 ((sF σ i0 5) + x1)) i0 6) + x1)) : Option St_) = some res := hF
  refine vv_lv [0, 1] (lv' := [(0, .ref (fad i0)), (1, .int x1)]) rfl ?_
  refine vv_aload_n C dX0_sellBaskets_0 0 rfl ?_
  refine vv_dup C dX0_sellBaskets_1 rfl ?_
  refine vv_get (v := .int (sF σ i0 5)) C (hi_X0_sellBaskets_X0) (29 + i0) (wX_farm cy ad fad σ hi0) rfl 5 (by decide) (List.mem_of_getElem? (i := 1) rfl) rfl dX0_sellBaskets_2 ?_
  refine vv_iload_n C dX0_sellBaskets_5 1 rfl ?_
  refine vv_iadd C dX0_sellBaskets_6 ?_
  refine vv_put (w' := (wX cy ad fad (uF σ i0 5 ((sF σ i0 5) + x1)))) C (hi_X0_sellBaskets_X0) tyX0 tyX0_ok nmX0 (29 + i0) (wX_farm cy ad fad σ hi0) rfl 5 (by decide) (List.mem_of_getElem? (i := 1) rfl) rfl rfl rfl (Nat.le_of_ble_eq_true rfl) dX0_sellBaskets_7 (wX_farmS cy ad fad σ hi0 5 (by decide) _) ?_
  refine vv_aload_n C dX0_sellBaskets_10 0 rfl ?_
  refine vv_dup C dX0_sellBaskets_11 rfl ?_
  refine vv_get (v := .int (sF (uF σ i0 5 ((sF σ i0 5) + x1)) i0 6)) C (hi_X0_sellBaskets_X0) (29 + i0) (wX_farm cy ad fad (uF σ i0 5 ((sF σ i0 5) + x1)) hi0) rfl 6 (by decide) (List.mem_of_getElem? (i := 2) rfl) rfl dX0_sellBaskets_12 ?_
  refine vv_iload_n C dX0_sellBaskets_15 1 rfl ?_
  refine vv_iadd C dX0_sellBaskets_16 ?_
  refine vv_put (w' := (wX cy ad fad (uF (uF σ i0 5 ((sF σ i0 5) + x1)) i0 6 ((sF (uF σ i0 5 ((sF σ i0 5) + x1)) i0 6) + x1)))) C (hi_X0_sellBaskets_X0) tyX0 tyX0_ok nmX0 (29 + i0) (wX_farm cy ad fad (uF σ i0 5 ((sF σ i0 5) + x1)) hi0) rfl 6 (by decide) (List.mem_of_getElem? (i := 2) rfl) rfl rfl rfl (Nat.le_of_ble_eq_true rfl) dX0_sellBaskets_17 (wX_farmS cy ad fad (uF σ i0 5 ((sF σ i0 5) + x1)) hi0 6 (by decide) _) ?_
  cases hF
  exact hr _ _ dX0_sellBaskets_20
theorem nX0_sellBaskets {i0 : Nat} {x1 : Int32} {σ r : St_} (h : fX0_sellBaskets i0 x1 σ = some r) : sN r = sN σ := by
  unfold fX0_sellBaskets at h
  cases h
  rfl
/-! X0_countDoubtful -/
abbrev rmX0_countDoubtful : Room := { frames := 0, cells := 0, slots := 0, locals := 0 }
theorem hi_X0_countDoubtful_X0 : ∀ w ∈ wsX00, w ∈ wsX0_countDoubtful := fun w h => List.mem_cons_of_mem _ (List.mem_append_right _ h)
def fX0_countDoubtful_17 (i0 : Nat) (σ : St_) : Option St_ := some (uF σ i0 6 0)
def fX0_countDoubtful (i0 : Nat) (x1 : Int32) (σ : St_) : Option St_ := (if x1 = 0 then fX0_countDoubtful_17  i0 σ else fX0_countDoubtful_17  i0 (uF σ i0 7 ((sF σ i0 7) + (sF σ i0 6))))
set_option maxHeartbeats 4000000 in
set_option maxRecDepth 20000 in
theorem vX0_countDoubtful_17 {p : Program} {l : Launch} {e : Env} {s : State} {m : MethodId} {args : Array Value} {below : List Frame} {meth : Method} {c : Code} {D : va_G} {A : Nat → Prop} {Q : State → Prop} {cy : Nat → ClassId} {ad fad : Nat → Nat} {res : St_} (C : vv_X p s m args meth c D (tysW cy) A 2 cX0_countDoubtful RX0 wsX0_countDoubtful) (h0 : eX A s) (hr : rt_V p l e rmX0_countDoubtful s m args below meth c D A 2 Q cX0_countDoubtful (wX cy ad fad res)) : ∀ (i0 : Nat) (σ : St_), (i0 < sN σ) → fX0_countDoubtful_17  i0 σ = some res → vv_ p l e rmX0_countDoubtful s m args below meth c D A 2 Q 0 0 (wX cy ad fad σ) [(0, .ref (fad i0))] 17 [] := by
  intro i0 σ hfl0 hF
  replace hF : (some (uF σ i0 6 0) : Option St_) = some res := hF
  refine vv_aload_n C dX0_countDoubtful_17 0 rfl ?_
  refine vv_iconst (v := 0) C dX0_countDoubtful_18 (by decide) ?_
  refine vv_put (w' := (wX cy ad fad (uF σ i0 6 0))) C (hi_X0_countDoubtful_X0) tyX0 tyX0_ok nmX0 (29 + i0) (wX_farm cy ad fad σ hfl0) rfl 6 (by decide) (List.mem_of_getElem? (i := 2) rfl) rfl rfl rfl (Nat.le_of_ble_eq_true rfl) dX0_countDoubtful_19 (wX_farmS cy ad fad σ hfl0 6 (by decide) _) ?_
  cases hF
  exact hr _ _ dX0_countDoubtful_22
set_option maxHeartbeats 4000000 in
set_option maxRecDepth 20000 in
theorem kX0_countDoubtful (l : Launch) (D : va_G) (cy : Nat → ClassId) (ad fad : Nat → Nat) (i0 : Nat) (x1 : Int32) (σ : St_) (res : St_) (hi0 : i0 < sN σ) (hF : fX0_countDoubtful i0 x1 σ = some res) : ct_V l D (tysW cy) eX yX0_countDoubtful wsX0_countDoubtful rmX0_countDoubtful [.ref (fad i0), .int x1] (wX cy ad fad σ) (wX cy ad fad res) := by
  refine mt_V (by decide) rfl (Nat.le_of_ble_eq_true rfl) ?_
  intro p e s m args below meth c A Q C h0 hr
  replace C : vv_X p s m args meth c D (tysW cy) A 2 cX0_countDoubtful RX0 wsX0_countDoubtful := C
  replace hF : ((if x1 = 0 then fX0_countDoubtful_17  i0 σ else fX0_countDoubtful_17  i0 (uF σ i0 7 ((sF σ i0 7) + (sF σ i0 6)))) : Option St_) = some res := hF
  refine vv_lv [0, 1] (lv' := [(0, .ref (fad i0)), (1, .int x1)]) rfl ?_
  refine vv_iload_n C dX0_countDoubtful_0 1 rfl ?_
  refine vv_if_eq (tgt := 17) C dX0_countDoubtful_1 (by decide) hF (fun c1 hF => ?_) (fun c1 hF => ?_)
  · refine vv_lv [0] rfl ?_
    exact vX0_countDoubtful_17 C h0 hr  i0 σ hi0 hF
  · refine vv_aload_n C dX0_countDoubtful_4 0 rfl ?_
    refine vv_dup C dX0_countDoubtful_5 rfl ?_
    refine vv_get (v := .int (sF σ i0 7)) C (hi_X0_countDoubtful_X0) (29 + i0) (wX_farm cy ad fad σ hi0) rfl 7 (by decide) (List.mem_of_getElem? (i := 1) rfl) rfl dX0_countDoubtful_6 ?_
    refine vv_aload_n C dX0_countDoubtful_9 0 rfl ?_
    refine vv_get (v := .int (sF σ i0 6)) C (hi_X0_countDoubtful_X0) (29 + i0) (wX_farm cy ad fad σ hi0) rfl 6 (by decide) (List.mem_of_getElem? (i := 2) rfl) rfl dX0_countDoubtful_10 ?_
    refine vv_iadd C dX0_countDoubtful_13 ?_
    refine vv_put (w' := (wX cy ad fad (uF σ i0 7 ((sF σ i0 7) + (sF σ i0 6))))) C (hi_X0_countDoubtful_X0) tyX0 tyX0_ok nmX0 (29 + i0) (wX_farm cy ad fad σ hi0) rfl 7 (by decide) (List.mem_of_getElem? (i := 1) rfl) rfl rfl rfl (Nat.le_of_ble_eq_true rfl) dX0_countDoubtful_14 (wX_farmS cy ad fad σ hi0 7 (by decide) _) ?_
    refine vv_lv [0] rfl ?_
    exact vX0_countDoubtful_17 C h0 hr  i0 (uF σ i0 7 ((sF σ i0 7) + (sF σ i0 6))) hi0 hF
theorem nX0_countDoubtful {i0 : Nat} {x1 : Int32} {σ r : St_} (h : fX0_countDoubtful i0 x1 σ = some r) : sN r = sN σ := by
  unfold fX0_countDoubtful fX0_countDoubtful_17 at h
  split at h <;> cases h <;> rfl
/-! X0_changeStep -/
abbrev rmX0_changeStep : Room := { frames := 2, cells := 0, slots := 0, locals := 42 }
theorem hi_X0_changeStep_X0 : ∀ w ∈ wsX00, w ∈ wsX0_changeStep := fun w h => List.mem_cons_of_mem _ (List.mem_append_left _ (List.mem_append_right _ h))
def fX0_changeStep (i0 : Nat) (x1 : Int32) (σ : St_) : Option St_ := (bn_ (fX2_number 2 σ) fun r1 => (if x1 < r1 then (if (sF σ i0 3) ≤ 0 then some σ else some (uF σ i0 3 ((sF σ i0 3) - 1))) else some (uF σ i0 3 ((sF σ i0 3) + 1))))
set_option maxHeartbeats 4000000 in
set_option maxRecDepth 20000 in
theorem kX0_changeStep (l : Launch) (D : va_G) (cy : Nat → ClassId) (ad fad : Nat → Nat) (i0 : Nat) (x1 : Int32) (σ : St_) (res : St_) (hi0 : i0 < sN σ) (hF : fX0_changeStep i0 x1 σ = some res) : ct_V l D (tysW cy) eX yX0_changeStep wsX0_changeStep rmX0_changeStep [.ref (fad i0), .int x1, .ref (ad 25)] (wX cy ad fad σ) (wX cy ad fad res) := by
  refine mt_V (by decide) rfl (Nat.le_of_ble_eq_true rfl) ?_
  intro p e s m args below meth c A Q C h0 hr
  replace C : vv_X p s m args meth c D (tysW cy) A 3 cX0_changeStep RX0 wsX0_changeStep := C
  replace hF : ((bn_ (fX2_number 2 σ) fun r1 => (if x1 < r1 then (if (sF σ i0 3) ≤ 0 then some σ else some (uF σ i0 3 ((sF σ i0 3) - 1))) else some (uF σ i0 3 ((sF σ i0 3) + 1)))) : Option St_) = some res := hF
  refine vv_lv [0, 1, 2] (lv' := [(0, .ref (fad i0)), (1, .int x1), (2, .ref (ad 25))]) rfl ?_
  refine vv_iload_n C dX0_changeStep_0 1 rfl ?_
  refine vv_aload_n C dX0_changeStep_1 2 rfl ?_
  refine vv_iconst (v := 2) C dX0_changeStep_2 (by decide) ?_
  refine vv_callVi (fun r1 => r1) (fun r1 => (wX cy ad fad σ)) C eX_ok h0 [.int 2] [.int x1] 1 hF (fun r1 hr1 => kX2_number l D cy ad fad 2 σ r1  hr1) gX0_changeStep_X2_number rfl rfl rfl (by decide +kernel) ⟨by decide, by decide⟩ 25 (wX_g25 cy ad fad _) rfl rfl rfl (Nat.le_of_ble_eq_true rfl) dX0_changeStep_3 ⟨by decide, by decide⟩ (fun r1 hqr1 hF => ?_)
  refine vv_icmp_lt (tgt := 22) C dX0_changeStep_6 (by decide) hF (fun c3 hF => ?_) (fun c3 hF => ?_)
  · refine vv_aload_n C dX0_changeStep_22 0 rfl ?_
    refine vv_get (v := .int (sF σ i0 3)) C (hi_X0_changeStep_X0) (29 + i0) (wX_farm cy ad fad σ hi0) rfl 3 (by decide) (List.mem_of_getElem? (i := 1) rfl) rfl dX0_changeStep_23 ?_
    refine vv_if_le (tgt := 39) C dX0_changeStep_26 (by decide) hF (fun c2 hF => ?_) (fun c2 hF => ?_)
    · cases hF
      exact hr _ _ dX0_changeStep_39
    · refine vv_aload_n C dX0_changeStep_29 0 rfl ?_
      refine vv_dup C dX0_changeStep_30 rfl ?_
      refine vv_get (v := .int (sF σ i0 3)) C (hi_X0_changeStep_X0) (29 + i0) (wX_farm cy ad fad σ hi0) rfl 3 (by decide) (List.mem_of_getElem? (i := 1) rfl) rfl dX0_changeStep_31 ?_
      refine vv_iconst (v := 1) C dX0_changeStep_34 (by decide) ?_
      refine vv_isub C dX0_changeStep_35 ?_
      refine vv_put (w' := (wX cy ad fad (uF σ i0 3 ((sF σ i0 3) - 1)))) C (hi_X0_changeStep_X0) tyX0 tyX0_ok nmX0 (29 + i0) (wX_farm cy ad fad σ hi0) rfl 3 (by decide) (List.mem_of_getElem? (i := 1) rfl) rfl rfl rfl (Nat.le_of_ble_eq_true rfl) dX0_changeStep_36 (wX_farmS cy ad fad σ hi0 3 (by decide) _) ?_
      cases hF
      exact hr _ _ dX0_changeStep_39
  · refine vv_aload_n C dX0_changeStep_9 0 rfl ?_
    refine vv_dup C dX0_changeStep_10 rfl ?_
    refine vv_get (v := .int (sF σ i0 3)) C (hi_X0_changeStep_X0) (29 + i0) (wX_farm cy ad fad σ hi0) rfl 3 (by decide) (List.mem_of_getElem? (i := 1) rfl) rfl dX0_changeStep_11 ?_
    refine vv_iconst (v := 1) C dX0_changeStep_14 (by decide) ?_
    refine vv_iadd C dX0_changeStep_15 ?_
    refine vv_put (w' := (wX cy ad fad (uF σ i0 3 ((sF σ i0 3) + 1)))) C (hi_X0_changeStep_X0) tyX0 tyX0_ok nmX0 (29 + i0) (wX_farm cy ad fad σ hi0) rfl 3 (by decide) (List.mem_of_getElem? (i := 1) rfl) rfl rfl rfl (Nat.le_of_ble_eq_true rfl) dX0_changeStep_16 (wX_farmS cy ad fad σ hi0 3 (by decide) _) ?_
    refine vv_goto (tgt := 39) C dX0_changeStep_19 (by decide) ?_
    cases hF
    exact hr _ _ dX0_changeStep_39
theorem nX0_changeStep {i0 : Nat} {x1 : Int32} {σ r : St_} (h : fX0_changeStep i0 x1 σ = some r) : sN r = sN σ := by
  unfold fX0_changeStep at h
  obtain ⟨a, -, h⟩ := bn_some h
  split at h
  · split at h <;> cases h <;> rfl
  · cases h
    rfl
/-! X0_goOn -/
abbrev rmX0_goOn : Room := { frames := 3, cells := 0, slots := 0, locals := 64 }
theorem hi_X0_goOn_X0 : ∀ w ∈ wsX00, w ∈ wsX0_goOn := fun w h => List.mem_cons_of_mem _ (List.mem_append_left _ (List.mem_append_right _ h))
def fX0_goOn_41 (i0 : Nat) (σ : St_) : Option St_ := (bn_ (fX2_number 4 (uF (uF σ i0 2 0) i0 3 0)) fun r8 => some (uF (uF (uF σ i0 2 0) i0 3 0) i0 4 r8))
def fX0_goOn_74 (t0 : Int32) (u1 : Nat) (σ : St_) : Option St_ := (gz_ t0 (some (uF σ u1 2 t0)))
def fX0_goOn (i0 : Nat) (x1 : Int32) (x2 : Int32) (σ : St_) : Option St_ := (bn_ (fX0_isOut i0 σ) fun r1 => (if r1 = 0 then (bn_ (fX0_changeStep i0 x1 σ) fun r2 => (bn_ (fX2_number 3 r2) fun r3 => (if r3 ≤ x1 then fX0_goOn_41  i0 r2 else (if (sF r2 i0 3) < 3 then (if x2 < 2 then fX0_goOn_74  0 i0 r2 else fX0_goOn_74  1 i0 r2) else fX0_goOn_41  i0 r2)))) else some (uF σ i0 4 ((sF σ i0 4) - 1))))
set_option maxHeartbeats 4000000 in
set_option maxRecDepth 20000 in
theorem vX0_goOn_41 {p : Program} {l : Launch} {e : Env} {s : State} {m : MethodId} {args : Array Value} {below : List Frame} {meth : Method} {c : Code} {D : va_G} {A : Nat → Prop} {Q : State → Prop} {cy : Nat → ClassId} {ad fad : Nat → Nat} {res : St_} (C : vv_X p s m args meth c D (tysW cy) A 4 cX0_goOn RX0 wsX0_goOn) (h0 : eX A s) (hr : rt_V p l e rmX0_goOn s m args below meth c D A 4 Q cX0_goOn (wX cy ad fad res)) : ∀ (i0 : Nat) (σ : St_), (i0 < sN σ) → fX0_goOn_41  i0 σ = some res → vv_ p l e rmX0_goOn s m args below meth c D A 4 Q 0 0 (wX cy ad fad σ) [(0, .ref (fad i0)), (3, .ref (ad 25))] 41 [] := by
  intro i0 σ hfl0 hF
  replace hF : ((bn_ (fX2_number 4 (uF (uF σ i0 2 0) i0 3 0)) fun r8 => some (uF (uF (uF σ i0 2 0) i0 3 0) i0 4 r8)) : Option St_) = some res := hF
  refine vv_aload_n C dX0_goOn_41 0 rfl ?_
  refine vv_iconst (v := 0) C dX0_goOn_42 (by decide) ?_
  refine vv_put (w' := (wX cy ad fad (uF σ i0 2 0))) C (hi_X0_goOn_X0) tyX0 tyX0_ok nmX0 (29 + i0) (wX_farm cy ad fad σ hfl0) rfl 2 (by decide) (List.mem_of_getElem? (i := 3) rfl) rfl (by decide +kernel) (by decide +kernel) (Nat.le_of_ble_eq_true rfl) dX0_goOn_43 (wX_farmS cy ad fad σ hfl0 2 (by decide) _) ?_
  refine vv_aload_n C dX0_goOn_46 0 rfl ?_
  refine vv_iconst (v := 0) C dX0_goOn_47 (by decide) ?_
  refine vv_put (w' := (wX cy ad fad (uF (uF σ i0 2 0) i0 3 0))) C (hi_X0_goOn_X0) tyX0 tyX0_ok nmX0 (29 + i0) (wX_farm cy ad fad (uF σ i0 2 0) hfl0) rfl 3 (by decide) (List.mem_of_getElem? (i := 2) rfl) rfl rfl rfl (Nat.le_of_ble_eq_true rfl) dX0_goOn_48 (wX_farmS cy ad fad (uF σ i0 2 0) hfl0 3 (by decide) _) ?_
  refine vv_aload_n C dX0_goOn_51 0 rfl ?_
  refine vv_aload_n C dX0_goOn_52 1 rfl ?_
  refine vv_iconst (v := 4) C dX0_goOn_53 (by decide) ?_
  refine vv_callVi (fun r8 => r8) (fun r8 => (wX cy ad fad (uF (uF σ i0 2 0) i0 3 0))) C eX_ok h0 [.int 4] [.ref (fad i0)] 1 hF (fun r8 hr8 => kX2_number l D cy ad fad 4 (uF (uF σ i0 2 0) i0 3 0) r8  hr8) gX0_goOn_X2_number rfl rfl rfl (by decide +kernel) ⟨by decide, by decide⟩ 25 (wX_g25 cy ad fad _) rfl rfl rfl (Nat.le_of_ble_eq_true rfl) dX0_goOn_54 ⟨by decide, by decide⟩ (fun r8 hqr8 hF => ?_)
  refine vv_put (w' := (wX cy ad fad (uF (uF (uF σ i0 2 0) i0 3 0) i0 4 r8))) C (hi_X0_goOn_X0) tyX0 tyX0_ok nmX0 (29 + i0) (wX_farm cy ad fad (uF (uF σ i0 2 0) i0 3 0) hfl0) rfl 4 (by decide) (List.mem_of_getElem? (i := 1) rfl) rfl rfl rfl (Nat.le_of_ble_eq_true rfl) dX0_goOn_57 (wX_farmS cy ad fad (uF (uF σ i0 2 0) i0 3 0) hfl0 4 (by decide) _) ?_
  refine vv_goto (tgt := 77) C dX0_goOn_60 (by decide) ?_
  cases hF
  exact hr _ _ dX0_goOn_77
set_option maxHeartbeats 4000000 in
set_option maxRecDepth 20000 in
theorem vX0_goOn_74 {p : Program} {l : Launch} {e : Env} {s : State} {m : MethodId} {args : Array Value} {below : List Frame} {meth : Method} {c : Code} {D : va_G} {A : Nat → Prop} {Q : State → Prop} {cy : Nat → ClassId} {ad fad : Nat → Nat} {res : St_} (C : vv_X p s m args meth c D (tysW cy) A 4 cX0_goOn RX0 wsX0_goOn) (h0 : eX A s) (hr : rt_V p l e rmX0_goOn s m args below meth c D A 4 Q cX0_goOn (wX cy ad fad res)) : ∀ (t0 : Int32) (u1 : Nat) (σ : St_), (u1 < sN σ) → fX0_goOn_74  t0 u1 σ = some res → vv_ p l e rmX0_goOn s m args below meth c D A 4 Q 0 0 (wX cy ad fad σ) [] 74 [.int t0, .ref (fad u1)] := by
  intro t0 u1 σ hfs1 hF
  replace hF : ((gz_ t0 (some (uF σ u1 2 t0))) : Option St_) = some res := hF
  obtain ⟨hz, hF⟩ := gz_some hF
  refine vv_put (w' := (wX cy ad fad (uF σ u1 2 t0))) C (hi_X0_goOn_X0) tyX0 tyX0_ok nmX0 (29 + u1) (wX_farm cy ad fad σ hfs1) rfl 2 (by decide) (List.mem_of_getElem? (i := 3) rfl) rfl (gz_nar hz) (gz_fit hz) (Nat.le_of_ble_eq_true rfl) dX0_goOn_74 (wX_farmS cy ad fad σ hfs1 2 (by decide) _) ?_
  cases hF
  exact hr _ _ dX0_goOn_77
set_option maxHeartbeats 4000000 in
set_option maxRecDepth 20000 in
theorem kX0_goOn (l : Launch) (D : va_G) (cy : Nat → ClassId) (ad fad : Nat → Nat) (i0 : Nat) (x1 : Int32) (x2 : Int32) (σ : St_) (res : St_) (hi0 : i0 < sN σ) (hF : fX0_goOn i0 x1 x2 σ = some res) : ct_V l D (tysW cy) eX yX0_goOn wsX0_goOn rmX0_goOn [.ref (fad i0), .int x1, .int x2, .ref (ad 25)] (wX cy ad fad σ) (wX cy ad fad res) := by
  refine mt_V (by decide) rfl (Nat.le_of_ble_eq_true rfl) ?_
  intro p e s m args below meth c A Q C h0 hr
  replace C : vv_X p s m args meth c D (tysW cy) A 4 cX0_goOn RX0 wsX0_goOn := C
  replace hF : ((bn_ (fX0_isOut i0 σ) fun r1 => (if r1 = 0 then (bn_ (fX0_changeStep i0 x1 σ) fun r2 => (bn_ (fX2_number 3 r2) fun r3 => (if r3 ≤ x1 then fX0_goOn_41  i0 r2 else (if (sF r2 i0 3) < 3 then (if x2 < 2 then fX0_goOn_74  0 i0 r2 else fX0_goOn_74  1 i0 r2) else fX0_goOn_41  i0 r2)))) else some (uF σ i0 4 ((sF σ i0 4) - 1)))) : Option St_) = some res := hF
  refine vv_lv [0, 1, 2, 3] (lv' := [(0, .ref (fad i0)), (1, .int x1), (2, .int x2), (3, .ref (ad 25))]) rfl ?_
  refine vv_aload_n C dX0_goOn_0 0 rfl ?_
  refine vv_callVi (fun r1 => r1) (fun r1 => (wX cy ad fad σ)) C eX_ok h0 [] [] 0 hF (fun r1 hr1 => kX0_isOut l D cy ad fad i0 σ r1 hi0 hr1) gX0_goOn_X0_isOut rfl rfl rfl (by decide +kernel) ⟨by decide, by decide⟩ (29 + i0) (wX_farm cy ad fad σ hi0) rfl rfl rfl (Nat.le_of_ble_eq_true rfl) dX0_goOn_1 ⟨by decide, by decide⟩ (fun r1 hqr1 hF => ?_)
  refine vv_if_eq (tgt := 18) C dX0_goOn_4 (by decide) hF (fun c7 hF => ?_) (fun c7 hF => ?_)
  · refine vv_aload_n C dX0_goOn_18 0 rfl ?_
    refine vv_iload_n C dX0_goOn_19 1 rfl ?_
    refine vv_aload_n C dX0_goOn_20 3 rfl ?_
    refine vv_callVv  (fun r2 => (wX cy ad fad r2)) C eX_ok h0 [.int x1, .ref (ad 25)] [] 2 hF (fun r2 hr2 => kX0_changeStep l D cy ad fad i0 x1 σ r2 hi0 hr2) gX0_goOn_X0_changeStep rfl rfl rfl (by decide +kernel) ⟨by decide, by decide⟩ (29 + i0) (wX_farm cy ad fad σ hi0) rfl rfl rfl (Nat.le_of_ble_eq_true rfl) dX0_goOn_21 ⟨by decide, by decide⟩ (fun r2 hqr2 hF => ?_)
    have hi0_r2 : i0 < sN r2 := by rw [nX0_changeStep hqr2]; exact hi0
    refine vv_iload_n C dX0_goOn_24 1 rfl ?_
    refine vv_aload_n C dX0_goOn_25 3 rfl ?_
    refine vv_iconst (v := 3) C dX0_goOn_26 (by decide) ?_
    refine vv_callVi (fun r3 => r3) (fun r3 => (wX cy ad fad r2)) C eX_ok h0 [.int 3] [.int x1] 1 hF (fun r3 hr3 => kX2_number l D cy ad fad 3 r2 r3  hr3) gX0_goOn_X2_number rfl rfl rfl (by decide +kernel) ⟨by decide, by decide⟩ 25 (wX_g25 cy ad fad _) rfl rfl rfl (Nat.le_of_ble_eq_true rfl) dX0_goOn_27 ⟨by decide, by decide⟩ (fun r3 hqr3 hF => ?_)
    refine vv_icmp_ge (tgt := 41) C dX0_goOn_30 (by decide) hF (fun c6 hF => ?_) (fun c6 hF => ?_)
    · refine vv_lv [0, 3] rfl ?_
      exact vX0_goOn_41 C h0 hr  i0 r2 hi0_r2 hF
    · refine vv_aload_n C dX0_goOn_33 0 rfl ?_
      refine vv_get (v := .int (sF r2 i0 3)) C (hi_X0_goOn_X0) (29 + i0) (wX_farm cy ad fad r2 hi0_r2) rfl 3 (by decide) (List.mem_of_getElem? (i := 2) rfl) rfl dX0_goOn_34 ?_
      refine vv_iconst (v := 3) C dX0_goOn_37 (by decide) ?_
      refine vv_icmp_lt (tgt := 63) C dX0_goOn_38 (by decide) hF (fun c5 hF => ?_) (fun c5 hF => ?_)
      · refine vv_aload_n C dX0_goOn_63 0 rfl ?_
        refine vv_iload_n C dX0_goOn_64 2 rfl ?_
        refine vv_iconst (v := 2) C dX0_goOn_65 (by decide) ?_
        refine vv_icmp_lt (tgt := 73) C dX0_goOn_66 (by decide) hF (fun c4 hF => ?_) (fun c4 hF => ?_)
        · refine vv_iconst (v := 0) C dX0_goOn_73 (by decide) ?_
          refine vv_lv [] rfl ?_
          exact vX0_goOn_74 C h0 hr  0 i0 r2 hi0_r2 hF
        · refine vv_iconst (v := 1) C dX0_goOn_69 (by decide) ?_
          refine vv_goto (tgt := 74) C dX0_goOn_70 (by decide) ?_
          refine vv_lv [] rfl ?_
          exact vX0_goOn_74 C h0 hr  1 i0 r2 hi0_r2 hF
      · refine vv_lv [0, 3] rfl ?_
        exact vX0_goOn_41 C h0 hr  i0 r2 hi0_r2 hF
  · refine vv_aload_n C dX0_goOn_7 0 rfl ?_
    refine vv_dup C dX0_goOn_8 rfl ?_
    refine vv_get (v := .int (sF σ i0 4)) C (hi_X0_goOn_X0) (29 + i0) (wX_farm cy ad fad σ hi0) rfl 4 (by decide) (List.mem_of_getElem? (i := 1) rfl) rfl dX0_goOn_9 ?_
    refine vv_iconst (v := 1) C dX0_goOn_12 (by decide) ?_
    refine vv_isub C dX0_goOn_13 ?_
    refine vv_put (w' := (wX cy ad fad (uF σ i0 4 ((sF σ i0 4) - 1)))) C (hi_X0_goOn_X0) tyX0 tyX0_ok nmX0 (29 + i0) (wX_farm cy ad fad σ hi0) rfl 4 (by decide) (List.mem_of_getElem? (i := 1) rfl) rfl rfl rfl (Nat.le_of_ble_eq_true rfl) dX0_goOn_14 (wX_farmS cy ad fad σ hi0 4 (by decide) _) ?_
    cases hF
    exact hr _ _ dX0_goOn_17
theorem nX0_goOn {i0 : Nat} {x1 x2 : Int32} {σ r : St_} (h : fX0_goOn i0 x1 x2 σ = some r) : sN r = sN σ := by
  unfold fX0_goOn fX0_goOn_41 fX0_goOn_74 at h
  obtain ⟨a, -, h⟩ := bn_some h
  split at h
  · obtain ⟨r2, h2, h⟩ := bn_some h
    rw [← nX0_changeStep h2]
    obtain ⟨a3, -, h⟩ := bn_some h
    split at h
    · obtain ⟨_, -, h⟩ := bn_some h
      cases h
      rfl
    · split at h
      · split at h
        · obtain ⟨-, h⟩ := gz_some h
          cases h
          rfl
        · obtain ⟨-, h⟩ := gz_some h
          cases h
          rfl
      · obtain ⟨_, -, h⟩ := bn_some h
        cases h
        rfl
  · cases h
    rfl
