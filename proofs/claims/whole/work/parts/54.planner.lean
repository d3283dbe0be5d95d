/-! X1_begin -/
abbrev rmX1_begin : Room := { frames := 1, cells := 0, slots := 0, locals := 23 }
theorem hi_X1_begin_X1 : ∀ w ∈ wsX10, w ∈ wsX1_begin := fun w h => List.mem_cons_of_mem _ (List.mem_append_right _ h)
def fX1_begin (x1 : Int32) (x2 : Int32) (σ : St_) : Option St_ := (bn_ (fJ7_fill_53178_q5 0 (uS (uS σ 3 x1) 4 x2)) fun r1 => (bn_ (fJ7_fill_53178_q8 0 r1) fun r2 => (bn_ (fJ7_fill_53178_q9 0 r2) fun r3 => some r3)))
set_option maxHeartbeats 4000000 in
set_option maxRecDepth 20000 in
theorem kX1_begin (l : Launch) (D : va_G) (cy : Nat → ClassId) (ad fad : Nat → Nat) (x1 : Int32) (x2 : Int32) (σ : St_) (res : St_)  (hF : fX1_begin x1 x2 σ = some res) : ct_V l D (tysW cy) eX yX1_begin wsX1_begin rmX1_begin [.ref (ad 27), .int x1, .int x2] (wX cy ad fad σ) (wX cy ad fad res) := by
  refine mt_V (by decide) rfl (Nat.le_of_ble_eq_true rfl) ?_
  intro p e s m args below meth c A Q C h0 hr
  replace C : vv_X p s m args meth c D (tysW cy) A 3 cX1_begin RX1 wsX1_begin := C
  replace hF : ((bn_ (fJ7_fill_53178_q5 0 (uS (uS σ 3 x1) 4 x2)) fun r1 => (bn_ (fJ7_fill_53178_q8 0 r1) fun r2 => (bn_ (fJ7_fill_53178_q9 0 r2) fun r3 => some r3))) : Option St_) = some res := hF
  refine vv_lv [0, 1, 2] (lv' := [(0, .ref (ad 27)), (1, .int x1), (2, .int x2)]) rfl ?_
  refine vv_aload_n C dX1_begin_0 0 rfl ?_
  refine vv_iload_n C dX1_begin_1 1 rfl ?_
  refine vv_put (w' := (wX cy ad fad (uS σ 3 x1))) C (hi_X1_begin_X1) tyX1 tyX1_ok nmX1 27 (wX_g27 cy ad fad _) rfl 5 (by decide) (List.mem_of_getElem? (i := 1) rfl) rfl rfl rfl (Nat.le_of_ble_eq_true rfl) dX1_begin_2 (wX_s3 _ _ _ _ _) ?_
  refine vv_aload_n C dX1_begin_5 0 rfl ?_
  refine vv_iload_n C dX1_begin_6 2 rfl ?_
  refine vv_put (w' := (wX cy ad fad (uS (uS σ 3 x1) 4 x2))) C (hi_X1_begin_X1) tyX1 tyX1_ok nmX1 27 (wX_g27 cy ad fad _) rfl 6 (by decide) (List.mem_of_getElem? (i := 2) rfl) rfl rfl rfl (Nat.le_of_ble_eq_true rfl) dX1_begin_7 (wX_s4 _ _ _ _ _) ?_
  refine vv_aload_n C dX1_begin_10 0 rfl ?_
  refine vv_get (v := .ref (ad 5)) C (hi_X1_begin_X1) 27 (wX_g27 cy ad fad _) rfl 0 (by decide) (List.mem_of_getElem? (i := 3) rfl) rfl dX1_begin_11 ?_
  refine vv_iconst (v := 0) C dX1_begin_14 (by decide) ?_
  refine vv_callSv  (fun r1 => (wX cy ad fad r1)) C eX_ok h0 [.ref (ad 5), .int 0] [] 2 hF (fun r1 hr1 => kJ7_fill_53178_q5 l D cy ad fad 0 (uS (uS σ 3 x1) 4 x2) r1  hr1) gX1_begin_J7_fill_53178 rfl rfl rfl (by decide +kernel) ⟨by decide, by decide⟩ rfl rfl (Nat.le_of_ble_eq_true rfl) dX1_begin_15 ⟨by decide, by decide⟩ (fun r1 hqr1 hF => ?_)
  refine vv_aload_n C dX1_begin_18 0 rfl ?_
  refine vv_get (v := .ref (ad 8)) C (hi_X1_begin_X1) 27 (wX_g27 cy ad fad _) rfl 3 (by decide) (List.mem_of_getElem? (i := 4) rfl) rfl dX1_begin_19 ?_
  refine vv_iconst (v := 0) C dX1_begin_22 (by decide) ?_
  refine vv_callSv  (fun r2 => (wX cy ad fad r2)) C eX_ok h0 [.ref (ad 8), .int 0] [] 2 hF (fun r2 hr2 => kJ7_fill_53178_q8 l D cy ad fad 0 r1 r2  hr2) gX1_begin_J7_fill_53178 rfl rfl rfl (by decide +kernel) ⟨by decide, by decide⟩ rfl rfl (Nat.le_of_ble_eq_true rfl) dX1_begin_23 ⟨by decide, by decide⟩ (fun r2 hqr2 hF => ?_)
  refine vv_aload_n C dX1_begin_26 0 rfl ?_
  refine vv_get (v := .ref (ad 9)) C (hi_X1_begin_X1) 27 (wX_g27 cy ad fad _) rfl 4 (by decide) (List.mem_of_getElem? (i := 5) rfl) rfl dX1_begin_27 ?_
  refine vv_iconst (v := 0) C dX1_begin_30 (by decide) ?_
  refine vv_callSv  (fun r3 => (wX cy ad fad r3)) C eX_ok h0 [.ref (ad 9), .int 0] [] 2 hF (fun r3 hr3 => kJ7_fill_53178_q9 l D cy ad fad 0 r2 r3  hr3) gX1_begin_J7_fill_53178 rfl rfl rfl (by decide +kernel) ⟨by decide, by decide⟩ rfl rfl (Nat.le_of_ble_eq_true rfl) dX1_begin_31 ⟨by decide, by decide⟩ (fun r3 hqr3 hF => ?_)
  cases hF
  exact hr _ _ dX1_begin_34
/-! X1_visitorsOf -/
abbrev rmX1_visitorsOf : Room := { frames := 0, cells := 0, slots := 0, locals := 0 }
theorem hi_X1_visitorsOf_X1 : ∀ w ∈ wsX10, w ∈ wsX1_visitorsOf := fun w h => List.mem_cons_of_mem _ (List.mem_append_right _ h)
def fX1_visitorsOf (x1 : Int32) (σ : St_) : Option Int32 := (gd_ x1 10 fun j1 => some (sM σ 8 j1))
set_option maxHeartbeats 4000000 in
set_option maxRecDepth 20000 in
theorem kX1_visitorsOf (l : Launch) (D : va_G) (cy : Nat → ClassId) (ad fad : Nat → Nat) (x1 : Int32) (σ : St_) (res : Int32)  (hF : fX1_visitorsOf x1 σ = some res) : ct_I l D (tysW cy) eX yX1_visitorsOf wsX1_visitorsOf rmX1_visitorsOf [.ref (ad 27), .int x1] (wX cy ad fad σ) res (wX cy ad fad σ) := by
  refine mt_I (by decide) rfl (Nat.le_of_ble_eq_true rfl) ?_
  intro p e s m args below meth c A Q C h0 hr
  replace C : vv_X p s m args meth c D (tysW cy) A 2 cX1_visitorsOf RX1 wsX1_visitorsOf := C
  replace hF : ((gd_ x1 10 fun j1 => some (sM σ 8 j1)) : Option Int32) = some res := hF
  refine vv_lv [0, 1] (lv' := [(0, .ref (ad 27)), (1, .int x1)]) rfl ?_
  refine vv_aload_n C dX1_visitorsOf_0 0 rfl ?_
  refine vv_get (v := .ref (ad 8)) C (hi_X1_visitorsOf_X1) 27 (wX_g27 cy ad fad _) rfl 3 (by decide) (List.mem_of_getElem? (i := 1) rfl) rfl dX1_visitorsOf_1 ?_
  refine vv_iload_n C dX1_visitorsOf_4 1 rfl ?_
  refine vv_iald C 8 0 (wX_g8 cy ad fad _) (tysW_0 cy) hF dX1_visitorsOf_5 (fun j1 hj1 hF => ?_)
  cases hF
  exact hr _ _ dX1_visitorsOf_6 rfl
/-! X1_setWay -/
abbrev rmX1_setWay : Room := { frames := 0, cells := 0, slots := 0, locals := 0 }
theorem hi_X1_setWay_X1 : ∀ w ∈ wsX10, w ∈ wsX1_setWay := fun w h => List.mem_cons_of_mem _ (List.mem_append_right _ h)
def fX1_setWay (x1 : Int32) (x2 : Int32) (x3 : Int32) (σ : St_) : Option St_ := (if x3 = 0 then (gd_ x1 22 fun j1 => (gd_ x1 22 fun j2 => some (uM σ 5 j2 ((sM σ 5 j1) &&& ((1 <<< (x2 &&& 31)) ^^^ (-1)))))) else (gd_ x1 22 fun j3 => (gd_ x1 22 fun j4 => some (uM σ 5 j4 ((sM σ 5 j3) ||| (1 <<< (x2 &&& 31)))))))
set_option maxHeartbeats 4000000 in
set_option maxRecDepth 20000 in
theorem kX1_setWay (l : Launch) (D : va_G) (cy : Nat → ClassId) (ad fad : Nat → Nat) (x1 : Int32) (x2 : Int32) (x3 : Int32) (σ : St_) (res : St_)  (hF : fX1_setWay x1 x2 x3 σ = some res) : ct_V l D (tysW cy) eX yX1_setWay wsX1_setWay rmX1_setWay [.ref (ad 27), .int x1, .int x2, .int x3] (wX cy ad fad σ) (wX cy ad fad res) := by
  refine mt_V (by decide) rfl (Nat.le_of_ble_eq_true rfl) ?_
  intro p e s m args below meth c A Q C h0 hr
  replace C : vv_X p s m args meth c D (tysW cy) A 4 cX1_setWay RX1 wsX1_setWay := C
  replace hF : ((if x3 = 0 then (gd_ x1 22 fun j1 => (gd_ x1 22 fun j2 => some (uM σ 5 j2 ((sM σ 5 j1) &&& ((1 <<< (x2 &&& 31)) ^^^ (-1)))))) else (gd_ x1 22 fun j3 => (gd_ x1 22 fun j4 => some (uM σ 5 j4 ((sM σ 5 j3) ||| (1 <<< (x2 &&& 31))))))) : Option St_) = some res := hF
  refine vv_lv [0, 1, 2, 3] (lv' := [(0, .ref (ad 27)), (1, .int x1), (2, .int x2), (3, .int x3)]) rfl ?_
  refine vv_iload_n C dX1_setWay_0 3 rfl ?_
  refine vv_if_eq (tgt := 19) C dX1_setWay_1 (by decide) hF (fun c5 hF => ?_) (fun c5 hF => ?_)
  · refine vv_aload_n C dX1_setWay_19 0 rfl ?_
    refine vv_get (v := .ref (ad 5)) C (hi_X1_setWay_X1) 27 (wX_g27 cy ad fad _) rfl 0 (by decide) (List.mem_of_getElem? (i := 1) rfl) rfl dX1_setWay_20 ?_
    refine vv_iload_n C dX1_setWay_23 1 rfl ?_
    refine vv_dup2 C dX1_setWay_24 rfl rfl ?_
    refine vv_iald C 5 0 (wX_g5 cy ad fad _) (tysW_0 cy) hF dX1_setWay_25 (fun j1 hj1 hF => ?_)
    refine vv_iconst (v := 1) C dX1_setWay_26 (by decide) ?_
    refine vv_iload_n C dX1_setWay_27 2 rfl ?_
    refine vv_ishl C dX1_setWay_28 ?_
    refine vv_iconst (v := (-1)) C dX1_setWay_29 (by decide) ?_
    refine vv_ixor C dX1_setWay_30 ?_
    refine vv_iand C dX1_setWay_31 ?_
    refine vv_iast (w' := fun j2 => (wX cy ad fad (uM σ 5 j2 ((sM σ 5 j1) &&& ((1 <<< (x2 &&& 31)) ^^^ (-1)))))) C 5 0 (wX_g5 cy ad fad _) (tysW_0 cy) hF dX1_setWay_32 (fun _ => wX_a5 _ _ _ _ _) (fun j2 hj2 hF => ?_)
    cases hF
    exact hr _ _ dX1_setWay_33
  · refine vv_aload_n C dX1_setWay_4 0 rfl ?_
    refine vv_get (v := .ref (ad 5)) C (hi_X1_setWay_X1) 27 (wX_g27 cy ad fad _) rfl 0 (by decide) (List.mem_of_getElem? (i := 1) rfl) rfl dX1_setWay_5 ?_
    refine vv_iload_n C dX1_setWay_8 1 rfl ?_
    refine vv_dup2 C dX1_setWay_9 rfl rfl ?_
    refine vv_iald C 5 0 (wX_g5 cy ad fad _) (tysW_0 cy) hF dX1_setWay_10 (fun j3 hj3 hF => ?_)
    refine vv_iconst (v := 1) C dX1_setWay_11 (by decide) ?_
    refine vv_iload_n C dX1_setWay_12 2 rfl ?_
    refine vv_ishl C dX1_setWay_13 ?_
    refine vv_ior C dX1_setWay_14 ?_
    refine vv_iast (w' := fun j4 => (wX cy ad fad (uM σ 5 j4 ((sM σ 5 j3) ||| (1 <<< (x2 &&& 31)))))) C 5 0 (wX_g5 cy ad fad _) (tysW_0 cy) hF dX1_setWay_15 (fun _ => wX_a5 _ _ _ _ _) (fun j4 hj4 hF => ?_)
    refine vv_goto (tgt := 33) C dX1_setWay_16 (by decide) ?_
    cases hF
    exact hr _ _ dX1_setWay_33
/-! X1_openByLimits -/
abbrev rmX1_openByLimits : Room := { frames := 1, cells := 0, slots := 0, locals := 23 }
theorem hi_X1_openByLimits_X1 : ∀ w ∈ wsX10, w ∈ wsX1_openByLimits := fun w h => List.mem_cons_of_mem _ (List.mem_append_right _ h)
def fX1_openByLimits_97 (t0 : Int32) (t1 : Int32) (t2 : Int32) (σ : St_) : Option St_ := (bn_ (fX1_setWay t2 t1 t0 σ) fun r13 => some r13)
def fX1_openByLimits_80 (x3 : Int32) (x4 : Int32) (t0 : Int32) (t1 : Int32) (t2 : Int32) (σ : St_) : Option St_ := (bn_ (fX1_setWay t2 t1 t0 σ) fun r11 => (if x4 ≤ 0 then fX1_openByLimits_97  0 x3 21 r11 else fX1_openByLimits_97  1 x3 21 r11))
def fX1_openByLimits_59 (x3 : Int32) (x4 : Int32) (t0 : Int32) (t1 : Int32) (t2 : Int32) (σ : St_) : Option St_ := (bn_ (fX1_setWay t2 t1 t0 σ) fun r9 => (if (sS r9 3) ≤ x4 then fX1_openByLimits_80  x3 x4 0 21 x3 r9 else fX1_openByLimits_80  x3 x4 1 21 x3 r9))
def fX1_openByLimits_38 (x1 : Int32) (x3 : Int32) (x4 : Int32) (t0 : Int32) (t1 : Int32) (t2 : Int32) (σ : St_) : Option St_ := (bn_ (fX1_setWay t2 t1 t0 σ) fun r6 => (gd_ x1 10 fun j7 => (if (sM r6 9 j7) ≤ 0 then fX1_openByLimits_59  x3 x4 0 20 x1 r6 else fX1_openByLimits_59  x3 x4 1 20 x1 r6)))
def fX1_openByLimits (x1 : Int32) (x2 : Int32) (σ : St_) : Option St_ := (bn_ (fX1_placeVisited x2) fun r1 => (gd_ x2 10 fun j2 => (bn_ (fJ6_bitCount_0f7a4 (sM σ 8 j2)) fun r3 => (gd_ x1 10 fun j4 => (if (sS σ 4) ≤ (sM σ 9 j4) then fX1_openByLimits_38  x1 r1 r3 0 x1 20 σ else fX1_openByLimits_38  x1 r1 r3 1 x1 20 σ)))))
set_option maxHeartbeats 4000000 in
set_option maxRecDepth 20000 in
theorem vX1_openByLimits_97 {p : Program} {l : Launch} {e : Env} {s : State} {m : MethodId} {args : Array Value} {below : List Frame} {meth : Method} {c : Code} {D : va_G} {A : Nat → Prop} {Q : State → Prop} {cy : Nat → ClassId} {ad fad : Nat → Nat} {res : St_} (C : vv_X p s m args meth c D (tysW cy) A 5 cX1_openByLimits RX1 wsX1_openByLimits) (h0 : eX A s) (hr : rt_V p l e rmX1_openByLimits s m args below meth c D A 5 Q cX1_openByLimits (wX cy ad fad res)) : ∀ (t0 : Int32) (t1 : Int32) (t2 : Int32) (σ : St_), fX1_openByLimits_97  t0 t1 t2 σ = some res → vv_ p l e rmX1_openByLimits s m args below meth c D A 5 Q 0 0 (wX cy ad fad σ) [] 97 [.int t0, .int t1, .int t2, .ref (ad 27)] := by
  intro t0 t1 t2 σ hF
  replace hF : ((bn_ (fX1_setWay t2 t1 t0 σ) fun r13 => some r13) : Option St_) = some res := hF
  refine vv_callVv  (fun r13 => (wX cy ad fad r13)) C eX_ok h0 [.int t2, .int t1, .int t0] [] 3 hF (fun r13 hr13 => kX1_setWay l D cy ad fad t2 t1 t0 σ r13  hr13) gX1_openByLimits_X1_setWay rfl rfl rfl (by decide +kernel) ⟨by decide, by decide⟩ 27 (wX_g27 cy ad fad _) rfl rfl rfl (Nat.le_of_ble_eq_true rfl) dX1_openByLimits_97 ⟨by decide, by decide⟩ (fun r13 hqr13 hF => ?_)
  cases hF
  exact hr _ _ dX1_openByLimits_100
set_option maxHeartbeats 4000000 in
set_option maxRecDepth 20000 in
theorem vX1_openByLimits_80 {p : Program} {l : Launch} {e : Env} {s : State} {m : MethodId} {args : Array Value} {below : List Frame} {meth : Method} {c : Code} {D : va_G} {A : Nat → Prop} {Q : State → Prop} {cy : Nat → ClassId} {ad fad : Nat → Nat} {res : St_} (C : vv_X p s m args meth c D (tysW cy) A 5 cX1_openByLimits RX1 wsX1_openByLimits) (h0 : eX A s) (hr : rt_V p l e rmX1_openByLimits s m args below meth c D A 5 Q cX1_openByLimits (wX cy ad fad res)) : ∀ (x3 : Int32) (x4 : Int32) (t0 : Int32) (t1 : Int32) (t2 : Int32) (σ : St_), fX1_openByLimits_80  x3 x4 t0 t1 t2 σ = some res → vv_ p l e rmX1_openByLimits s m args below meth c D A 5 Q 0 0 (wX cy ad fad σ) [(0, .ref (ad 27)), (3, .int x3), (4, .int x4)] 80 [.int t0, .int t1, .int t2, .ref (ad 27)] := by
  intro x3 x4 t0 t1 t2 σ hF
  replace hF : ((bn_ (fX1_setWay t2 t1 t0 σ) fun r11 => (if x4 ≤ 0 then fX1_openByLimits_97  0 x3 21 r11 else fX1_openByLimits_97  1 x3 21 r11)) : Option St_) = some res := hF
  refine vv_callVv  (fun r11 => (wX cy ad fad r11)) C eX_ok h0 [.int t2, .int t1, .int t0] [] 3 hF (fun r11 hr11 => kX1_setWay l D cy ad fad t2 t1 t0 σ r11  hr11) gX1_openByLimits_X1_setWay rfl rfl rfl (by decide +kernel) ⟨by decide, by decide⟩ 27 (wX_g27 cy ad fad _) rfl rfl rfl (Nat.le_of_ble_eq_true rfl) dX1_openByLimits_80 ⟨by decide, by decide⟩ (fun r11 hqr11 hF => ?_)
  refine vv_aload_n C dX1_openByLimits_83 0 rfl ?_
  refine vv_bipush (v := 21) C dX1_openByLimits_84 (by decide) ?_
  refine vv_iload_n C dX1_openByLimits_86 1 rfl ?_
  refine vv_iload C dX1_openByLimits_87 2 rfl ?_
  refine vv_if_le (tgt := 96) C dX1_openByLimits_89 (by decide) hF (fun c12 hF => ?_) (fun c12 hF => ?_)
  · refine vv_iconst (v := 0) C dX1_openByLimits_96 (by decide) ?_
    refine vv_lv [] rfl ?_
    exact vX1_openByLimits_97 C h0 hr  0 x3 21 r11  hF
  · refine vv_iconst (v := 1) C dX1_openByLimits_92 (by decide) ?_
    refine vv_goto (tgt := 97) C dX1_openByLimits_93 (by decide) ?_
    refine vv_lv [] rfl ?_
    exact vX1_openByLimits_97 C h0 hr  1 x3 21 r11  hF
set_option maxHeartbeats 4000000 in
set_option maxRecDepth 20000 in
theorem vX1_openByLimits_59 {p : Program} {l : Launch} {e : Env} {s : State} {m : MethodId} {args : Array Value} {below : List Frame} {meth : Method} {c : Code} {D : va_G} {A : Nat → Prop} {Q : State → Prop} {cy : Nat → ClassId} {ad fad : Nat → Nat} {res : St_} (C : vv_X p s m args meth c D (tysW cy) A 5 cX1_openByLimits RX1 wsX1_openByLimits) (h0 : eX A s) (hr : rt_V p l e rmX1_openByLimits s m args below meth c D A 5 Q cX1_openByLimits (wX cy ad fad res)) : ∀ (x3 : Int32) (x4 : Int32) (t0 : Int32) (t1 : Int32) (t2 : Int32) (σ : St_), fX1_openByLimits_59  x3 x4 t0 t1 t2 σ = some res → vv_ p l e rmX1_openByLimits s m args below meth c D A 5 Q 0 0 (wX cy ad fad σ) [(0, .ref (ad 27)), (3, .int x3), (4, .int x4)] 59 [.int t0, .int t1, .int t2, .ref (ad 27)] := by
  intro x3 x4 t0 t1 t2 σ hF
  replace hF : ((bn_ (fX1_setWay t2 t1 t0 σ) fun r9 => (if (sS r9 3) ≤ x4 then fX1_openByLimits_80  x3 x4 0 21 x3 r9 else fX1_openByLimits_80  x3 x4 1 21 x3 r9)) : Option St_) = some res := hF
  refine vv_callVv  (fun r9 => (wX cy ad fad r9)) C eX_ok h0 [.int t2, .int t1, .int t0] [] 3 hF (fun r9 hr9 => kX1_setWay l D cy ad fad t2 t1 t0 σ r9  hr9) gX1_openByLimits_X1_setWay rfl rfl rfl (by decide +kernel) ⟨by decide, by decide⟩ 27 (wX_g27 cy ad fad _) rfl rfl rfl (Nat.le_of_ble_eq_true rfl) dX1_openByLimits_59 ⟨by decide, by decide⟩ (fun r9 hqr9 hF => ?_)
  refine vv_aload_n C dX1_openByLimits_62 0 rfl ?_
  refine vv_iload_n C dX1_openByLimits_63 1 rfl ?_
  refine vv_bipush (v := 21) C dX1_openByLimits_64 (by decide) ?_
  refine vv_iload C dX1_openByLimits_66 2 rfl ?_
  refine vv_aload_n C dX1_openByLimits_68 0 rfl ?_
  refine vv_get (v := .int (sS r9 3)) C (hi_X1_openByLimits_X1) 27 (wX_g27 cy ad fad _) rfl 5 (by decide) (List.mem_of_getElem? (i := 4) rfl) rfl dX1_openByLimits_69 ?_
  refine vv_icmp_ge (tgt := 79) C dX1_openByLimits_72 (by decide) hF (fun c10 hF => ?_) (fun c10 hF => ?_)
  · refine vv_iconst (v := 0) C dX1_openByLimits_79 (by decide) ?_
    refine vv_lv [0, 1, 2] rfl ?_
    exact vX1_openByLimits_80 C h0 hr  x3 x4 0 21 x3 r9  hF
  · refine vv_iconst (v := 1) C dX1_openByLimits_75 (by decide) ?_
    refine vv_goto (tgt := 80) C dX1_openByLimits_76 (by decide) ?_
    refine vv_lv [0, 1, 2] rfl ?_
    exact vX1_openByLimits_80 C h0 hr  x3 x4 1 21 x3 r9  hF
set_option maxHeartbeats 4000000 in
set_option maxRecDepth 20000 in
theorem vX1_openByLimits_38 {p : Program} {l : Launch} {e : Env} {s : State} {m : MethodId} {args : Array Value} {below : List Frame} {meth : Method} {c : Code} {D : va_G} {A : Nat → Prop} {Q : State → Prop} {cy : Nat → ClassId} {ad fad : Nat → Nat} {res : St_} (C : vv_X p s m args meth c D (tysW cy) A 5 cX1_openByLimits RX1 wsX1_openByLimits) (h0 : eX A s) (hr : rt_V p l e rmX1_openByLimits s m args below meth c D A 5 Q cX1_openByLimits (wX cy ad fad res)) : ∀ (x1 : Int32) (x3 : Int32) (x4 : Int32) (t0 : Int32) (t1 : Int32) (t2 : Int32) (σ : St_), fX1_openByLimits_38  x1 x3 x4 t0 t1 t2 σ = some res → vv_ p l e rmX1_openByLimits s m args below meth c D A 5 Q 0 0 (wX cy ad fad σ) [(0, .ref (ad 27)), (1, .int x1), (3, .int x3), (4, .int x4)] 38 [.int t0, .int t1, .int t2, .ref (ad 27)] := by
  intro x1 x3 x4 t0 t1 t2 σ hF
  replace hF : ((bn_ (fX1_setWay t2 t1 t0 σ) fun r6 => (gd_ x1 10 fun j7 => (if (sM r6 9 j7) ≤ 0 then fX1_openByLimits_59  x3 x4 0 20 x1 r6 else fX1_openByLimits_59  x3 x4 1 20 x1 r6))) : Option St_) = some res := hF
  refine vv_callVv  (fun r6 => (wX cy ad fad r6)) C eX_ok h0 [.int t2, .int t1, .int t0] [] 3 hF (fun r6 hr6 => kX1_setWay l D cy ad fad t2 t1 t0 σ r6  hr6) gX1_openByLimits_X1_setWay rfl rfl rfl (by decide +kernel) ⟨by decide, by decide⟩ 27 (wX_g27 cy ad fad _) rfl rfl rfl (Nat.le_of_ble_eq_true rfl) dX1_openByLimits_38 ⟨by decide, by decide⟩ (fun r6 hqr6 hF => ?_)
  refine vv_aload_n C dX1_openByLimits_41 0 rfl ?_
  refine vv_iload_n C dX1_openByLimits_42 1 rfl ?_
  refine vv_bipush (v := 20) C dX1_openByLimits_43 (by decide) ?_
  refine vv_aload_n C dX1_openByLimits_45 0 rfl ?_
  refine vv_get (v := .ref (ad 9)) C (hi_X1_openByLimits_X1) 27 (wX_g27 cy ad fad _) rfl 4 (by decide) (List.mem_of_getElem? (i := 2) rfl) rfl dX1_openByLimits_46 ?_
  refine vv_iload_n C dX1_openByLimits_49 1 rfl ?_
  refine vv_iald C 9 0 (wX_g9 cy ad fad _) (tysW_0 cy) hF dX1_openByLimits_50 (fun j7 hj7 hF => ?_)
  refine vv_if_le (tgt := 58) C dX1_openByLimits_51 (by decide) hF (fun c8 hF => ?_) (fun c8 hF => ?_)
  · refine vv_iconst (v := 0) C dX1_openByLimits_58 (by decide) ?_
    refine vv_lv [0, 2, 3] rfl ?_
    exact vX1_openByLimits_59 C h0 hr  x3 x4 0 20 x1 r6  hF
  · refine vv_iconst (v := 1) C dX1_openByLimits_54 (by decide) ?_
    refine vv_goto (tgt := 59) C dX1_openByLimits_55 (by decide) ?_
    refine vv_lv [0, 2, 3] rfl ?_
    exact vX1_openByLimits_59 C h0 hr  x3 x4 1 20 x1 r6  hF
set_option maxHeartbeats 4000000 in
set_option maxRecDepth 20000 in
theorem kX1_openByLimits (l : Launch) (D : va_G) (cy : Nat → ClassId) (ad fad : Nat → Nat) (x1 : Int32) (x2 : Int32) (σ : St_) (res : St_)  (hF : fX1_openByLimits x1 x2 σ = some res) : ct_V l D (tysW cy) eX yX1_openByLimits wsX1_openByLimits rmX1_openByLimits [.ref (ad 27), .int x1, .int x2] (wX cy ad fad σ) (wX cy ad fad res) := by
  refine mt_V (by decide) rfl (Nat.le_of_ble_eq_true rfl) ?_
  intro p e s m args below meth c A Q C h0 hr
  replace C : vv_X p s m args meth c D (tysW cy) A 5 cX1_openByLimits RX1 wsX1_openByLimits := C
  replace hF : ((bn_ (fX1_placeVisited x2) fun r1 => (gd_ x2 10 fun j2 => (bn_ (fJ6_bitCount_0f7a4 (sM σ 8 j2)) fun r3 => (gd_ x1 10 fun j4 => (if (sS σ 4) ≤ (sM σ 9 j4) then fX1_openByLimits_38  x1 r1 r3 0 x1 20 σ else fX1_openByLimits_38  x1 r1 r3 1 x1 20 σ))))) : Option St_) = some res := hF
  refine vv_lv [0, 1, 2] (lv' := [(0, .ref (ad 27)), (1, .int x1), (2, .int x2)]) rfl ?_
  refine vv_iload_n C dX1_openByLimits_0 2 rfl ?_
  refine vv_callSi (fun r1 => r1) (fun r1 => (wX cy ad fad σ)) C eX_ok h0 [.int x2] [] 1 hF (fun r1 hr1 => kX1_placeVisited l D (tysW cy) eX_ok (wX cy ad fad σ) x2 r1  hr1) gX1_openByLimits_X1_placeVisited rfl rfl rfl (by decide +kernel) ⟨by decide, by decide⟩ rfl rfl (Nat.le_of_ble_eq_true rfl) dX1_openByLimits_1 ⟨by decide, by decide⟩ (fun r1 hqr1 hF => ?_)
  refine vv_istore_n (lv' := [(3, .int r1), (0, .ref (ad 27)), (1, .int x1), (2, .int x2)]) C dX1_openByLimits_4 (by decide) rfl ?_
  refine vv_aload_n C dX1_openByLimits_5 1 rfl ?_
  refine vv_get (v := .ref (ad 8)) C (hi_X1_openByLimits_X1) 27 (wX_g27 cy ad fad _) rfl 3 (by decide) (List.mem_of_getElem? (i := 1) rfl) rfl dX1_openByLimits_6 ?_
  refine vv_iload_n C dX1_openByLimits_9 3 rfl ?_
  refine vv_iald C 8 0 (wX_g8 cy ad fad _) (tysW_0 cy) hF dX1_openByLimits_10 (fun j2 hj2 hF => ?_)
  refine vv_callSi (fun r3 => r3) (fun r3 => (wX cy ad fad σ)) C eX_ok h0 [.int (sM σ 8 j2)] [] 1 hF (fun r3 hr3 => kJ6_bitCount_0f7a4 l D (tysW cy) eX_ok (wX cy ad fad σ) (sM σ 8 j2) r3  hr3) gX1_openByLimits_J6_bitCount_0f7a4 rfl rfl rfl (by decide +kernel) ⟨by decide, by decide⟩ rfl rfl (Nat.le_of_ble_eq_true rfl) dX1_openByLimits_11 ⟨by decide, by decide⟩ (fun r3 hqr3 hF => ?_)
  refine vv_istore (lv' := [(4, .int r3), (3, .int r1), (0, .ref (ad 27)), (1, .int x1), (2, .int x2)]) C dX1_openByLimits_14 (by decide) rfl ?_
  refine vv_aload_n C dX1_openByLimits_16 2 rfl ?_
  refine vv_bipush (v := 20) C dX1_openByLimits_17 (by decide) ?_
  refine vv_iload_n C dX1_openByLimits_19 3 rfl ?_
  refine vv_aload_n C dX1_openByLimits_20 2 rfl ?_
  refine vv_get (v := .ref (ad 9)) C (hi_X1_openByLimits_X1) 27 (wX_g27 cy ad fad _) rfl 4 (by decide) (List.mem_of_getElem? (i := 2) rfl) rfl dX1_openByLimits_21 ?_
  refine vv_iload_n C dX1_openByLimits_24 3 rfl ?_
  refine vv_iald C 9 0 (wX_g9 cy ad fad _) (tysW_0 cy) hF dX1_openByLimits_25 (fun j4 hj4 hF => ?_)
  refine vv_aload_n C dX1_openByLimits_26 2 rfl ?_
  refine vv_get (v := .int (sS σ 4)) C (hi_X1_openByLimits_X1) 27 (wX_g27 cy ad fad _) rfl 6 (by decide) (List.mem_of_getElem? (i := 3) rfl) rfl dX1_openByLimits_27 ?_
  refine vv_icmp_ge (tgt := 37) C dX1_openByLimits_30 (by decide) hF (fun c5 hF => ?_) (fun c5 hF => ?_)
  · refine vv_iconst (v := 0) C dX1_openByLimits_37 (by decide) ?_
    refine vv_lv [2, 3, 1, 0] rfl ?_
    exact vX1_openByLimits_38 C h0 hr  x1 r1 r3 0 x1 20 σ  hF
  · refine vv_iconst (v := 1) C dX1_openByLimits_33 (by decide) ?_
    refine vv_goto (tgt := 38) C dX1_openByLimits_34 (by decide) ?_
    refine vv_lv [2, 3, 1, 0] rfl ?_
    exact vX1_openByLimits_38 C h0 hr  x1 r1 r3 1 x1 20 σ  hF
/-! X1_allow -/
abbrev rmX1_allow : Room := { frames := 2, cells := 0, slots := 0, locals := 47 }
def fX1_allow (x1 : Int32) (x2 : Int32) (σ : St_) : Option St_ := (bn_ (fX1_placeVisited x2) fun r1 => (bn_ (fX1_setWay x1 r1 1 σ) fun r2 => (bn_ (fX1_openByLimits x1 x2 r2) fun r3 => some r3)))
set_option maxHeartbeats 4000000 in
set_option maxRecDepth 20000 in
theorem kX1_allow (l : Launch) (D : va_G) (cy : Nat → ClassId) (ad fad : Nat → Nat) (x1 : Int32) (x2 : Int32) (σ : St_) (res : St_)  (hF : fX1_allow x1 x2 σ = some res) : ct_V l D (tysW cy) eX yX1_allow wsX1_allow rmX1_allow [.ref (ad 27), .int x1, .int x2] (wX cy ad fad σ) (wX cy ad fad res) := by
  refine mt_V (by decide) rfl (Nat.le_of_ble_eq_true rfl) ?_
  intro p e s m args below meth c A Q C h0 hr
  replace C : vv_X p s m args meth c D (tysW cy) A 3 cX1_allow RX1 wsX1_allow := C
  replace hF : ((bn_ (fX1_placeVisited x2) fun r1 => (bn_ (fX1_setWay x1 r1 1 σ) fun r2 => (bn_ (fX1_openByLimits x1 x2 r2) fun r3 => some r3))) : Option St_) = some res := hF
  refine vv_lv [0, 1, 2] (lv' := [(0, .ref (ad 27)), (1, .int x1), (2, .int x2)]) rfl ?_
  refine vv_aload_n C dX1_allow_0 0 rfl ?_
  refine vv_iload_n C dX1_allow_1 1 rfl ?_
  refine vv_iload_n C dX1_allow_2 2 rfl ?_
  refine vv_callSi (fun r1 => r1) (fun r1 => (wX cy ad fad σ)) C eX_ok h0 [.int x2] [.int x1, .ref (ad 27)] 1 hF (fun r1 hr1 => kX1_placeVisited l D (tysW cy) eX_ok (wX cy ad fad σ) x2 r1  hr1) gX1_allow_X1_placeVisited rfl rfl rfl (by decide +kernel) ⟨by decide, by decide⟩ rfl rfl (Nat.le_of_ble_eq_true rfl) dX1_allow_3 ⟨by decide, by decide⟩ (fun r1 hqr1 hF => ?_)
  refine vv_iconst (v := 1) C dX1_allow_6 (by decide) ?_
  refine vv_callVv  (fun r2 => (wX cy ad fad r2)) C eX_ok h0 [.int x1, .int r1, .int 1] [] 3 hF (fun r2 hr2 => kX1_setWay l D cy ad fad x1 r1 1 σ r2  hr2) gX1_allow_X1_setWay rfl rfl rfl (by decide +kernel) ⟨by decide, by decide⟩ 27 (wX_g27 cy ad fad _) rfl rfl rfl (Nat.le_of_ble_eq_true rfl) dX1_allow_7 ⟨by decide, by decide⟩ (fun r2 hqr2 hF => ?_)
  refine vv_aload_n C dX1_allow_10 0 rfl ?_
  refine vv_iload_n C dX1_allow_11 1 rfl ?_
  refine vv_iload_n C dX1_allow_12 2 rfl ?_
  refine vv_callVv  (fun r3 => (wX cy ad fad r3)) C eX_ok h0 [.int x1, .int x2] [] 2 hF (fun r3 hr3 => kX1_openByLimits l D cy ad fad x1 x2 r2 r3  hr3) gX1_allow_X1_openByLimits rfl rfl rfl (by decide +kernel) ⟨by decide, by decide⟩ 27 (wX_g27 cy ad fad _) rfl rfl rfl (Nat.le_of_ble_eq_true rfl) dX1_allow_13 ⟨by decide, by decide⟩ (fun r3 hqr3 hF => ?_)
  cases hF
  exact hr _ _ dX1_allow_16
/-! X1_addVisit -/
abbrev rmX1_addVisit : Room := { frames := 2, cells := 0, slots := 0, locals := 47 }
theorem hi_X1_addVisit_X1 : ∀ w ∈ wsX10, w ∈ wsX1_addVisit := fun w h => List.mem_cons_of_mem _ (List.mem_append_right _ h)
def fX1_addVisit (x1 : Int32) (x2 : Int32) (σ : St_) : Option St_ := (gd_ x2 10 fun j1 => (gd_ x2 10 fun j2 => (gd_ x1 10 fun j3 => (gd_ x1 10 fun j4 => (bn_ (fX1_placeVisited x2) fun r5 => (bn_ (fX1_setWay x1 r5 0 (uM (uM σ 8 j2 ((sM σ 8 j1) ||| (1 <<< (x1 &&& 31)))) 9 j4 ((sM (uM σ 8 j2 ((sM σ 8 j1) ||| (1 <<< (x1 &&& 31)))) 9 j3) + 1))) fun r6 => (bn_ (fX1_placeVisited x2) fun r7 => (bn_ (fX1_setWay r7 x1 1 r6) fun r8 => (bn_ (fX1_openByLimits x1 x2 r8) fun r9 => some r9)))))))))
set_option maxHeartbeats 4000000 in
set_option maxRecDepth 20000 in
theorem kX1_addVisit (l : Launch) (D : va_G) (cy : Nat → ClassId) (ad fad : Nat → Nat) (x1 : Int32) (x2 : Int32) (σ : St_) (res : St_)  (hF : fX1_addVisit x1 x2 σ = some res) : ct_V l D (tysW cy) eX yX1_addVisit wsX1_addVisit rmX1_addVisit [.ref (ad 27), .int x1, .int x2] (wX cy ad fad σ) (wX cy ad fad res) := by
  refine mt_V (by decide) rfl (Nat.le_of_ble_eq_true rfl) ?_
  intro p e s m args below meth c A Q C h0 hr
  replace C : vv_X p s m args meth c D (tysW cy) A 3 cX1_addVisit RX1 wsX1_addVisit := C
  replace hF : ((gd_ x2 10 fun j1 => (gd_ x2 10 fun j2 => (gd_ x1 10 fun j3 => (gd_ x1 10 fun j4 => (bn_ (fX1_placeVisited x2) fun r5 => (bn_ (fX1_setWay x1 r5 0 (uM (uM σ 8 j2 ((sM σ 8 j1) ||| (1 <<< (x1 &&& 31)))) 9 j4 ((sM (uM σ 8 j2 ((sM σ 8 j1) ||| (1 <<< (x1 &&& 31)))) 9 j3) + 1))) fun r6 => (bn_ (fX1_placeVisited x2) fun r7 => (bn_ (fX1_setWay r7 x1 1 r6) fun r8 => (bn_ (fX1_openByLimits x1 x2 r8) fun r9 => some r9))))))))) : Option St_) = some res := hF
  refine vv_lv [0, 1, 2] (lv' := [(0, .ref (ad 27)), (1, .int x1), (2, .int x2)]) rfl ?_
  refine vv_aload_n C dX1_addVisit_0 0 rfl ?_
  refine vv_get (v := .ref (ad 8)) C (hi_X1_addVisit_X1) 27 (wX_g27 cy ad fad _) rfl 3 (by decide) (List.mem_of_getElem? (i := 1) rfl) rfl dX1_addVisit_1 ?_
  refine vv_iload_n C dX1_addVisit_4 2 rfl ?_
  refine vv_dup2 C dX1_addVisit_5 rfl rfl ?_
  refine vv_iald C 8 0 (wX_g8 cy ad fad _) (tysW_0 cy) hF dX1_addVisit_6 (fun j1 hj1 hF => ?_)
  refine vv_iconst (v := 1) C dX1_addVisit_7 (by decide) ?_
  refine vv_iload_n C dX1_addVisit_8 1 rfl ?_
  refine vv_ishl C dX1_addVisit_9 ?_
  refine vv_ior C dX1_addVisit_10 ?_
  refine vv_iast (w' := fun j2 => (wX cy ad fad (uM σ 8 j2 ((sM σ 8 j1) ||| (1 <<< (x1 &&& 31)))))) C 8 0 (wX_g8 cy ad fad _) (tysW_0 cy) hF dX1_addVisit_11 (fun _ => wX_a8 _ _ _ _ _) (fun j2 hj2 hF => ?_)
  refine vv_aload_n C dX1_addVisit_12 0 rfl ?_
  refine vv_get (v := .ref (ad 9)) C (hi_X1_addVisit_X1) 27 (wX_g27 cy ad fad _) rfl 4 (by decide) (List.mem_of_getElem? (i := 2) rfl) rfl dX1_addVisit_13 ?_
  refine vv_iload_n C dX1_addVisit_16 1 rfl ?_
  refine vv_dup2 C dX1_addVisit_17 rfl rfl ?_
  refine vv_iald C 9 0 (wX_g9 cy ad fad _) (tysW_0 cy) hF dX1_addVisit_18 (fun j3 hj3 hF => ?_)
  refine vv_iconst (v := 1) C dX1_addVisit_19 (by decide) ?_
  refine vv_iadd C dX1_addVisit_20 ?_
  refine vv_iast (w' := fun j4 => (wX cy ad fad (uM (uM σ 8 j2 ((sM σ 8 j1) ||| (1 <<< (x1 &&& 31)))) 9 j4 ((sM (uM σ 8 j2 ((sM σ 8 j1) ||| (1 <<< (x1 &&& 31)))) 9 j3) + 1)))) C 9 0 (wX_g9 cy ad fad _) (tysW_0 cy) hF dX1_addVisit_21 (fun _ => wX_a9 _ _ _ _ _) (fun j4 hj4 hF => ?_)
  refine vv_aload_n C dX1_addVisit_22 0 rfl ?_
  refine vv_iload_n C dX1_addVisit_23 1 rfl ?_
  refine vv_iload_n C dX1_addVisit_24 2 rfl ?_
  refine vv_callSi (fun r5 => r5) (fun r5 => (wX cy ad fad (uM (uM σ 8 j2 ((sM σ 8 j1) ||| (1 <<< (x1 &&& 31)))) 9 j4 ((sM (uM σ 8 j2 ((sM σ 8 j1) ||| (1 <<< (x1 &&& 31)))) 9 j3) + 1)))) C eX_ok h0 [.int x2] [.int x1, .ref (ad 27)] 1 hF (fun r5 hr5 => kX1_placeVisited l D (tysW cy) eX_ok (wX cy ad fad (uM (uM σ 8 j2 ((sM σ 8 j1) ||| (1 <<< (x1 &&& 31)))) 9 j4 ((sM (uM σ 8 j2 ((sM σ 8 j1) ||| (1 <<< (x1 &&& 31)))) 9 j3) + 1))) x2 r5  hr5) gX1_addVisit_X1_placeVisited rfl rfl rfl (by decide +kernel) ⟨by decide, by decide⟩ rfl rfl (Nat.le_of_ble_eq_true rfl) dX1_addVisit_25 ⟨by decide, by decide⟩ (fun r5 hqr5 hF => ?_)
  refine vv_iconst (v := 0) C dX1_addVisit_28 (by decide) ?_
  refine vv_callVv  (fun r6 => (wX cy ad fad r6)) C eX_ok h0 [.int x1, .int r5, .int 0] [] 3 hF (fun r6 hr6 => kX1_setWay l D cy ad fad x1 r5 0 (uM (uM σ 8 j2 ((sM σ 8 j1) ||| (1 <<< (x1 &&& 31)))) 9 j4 ((sM (uM σ 8 j2 ((sM σ 8 j1) ||| (1 <<< (x1 &&& 31)))) 9 j3) + 1)) r6  hr6) gX1_addVisit_X1_setWay rfl rfl rfl (by decide +kernel) ⟨by decide, by decide⟩ 27 (wX_g27 cy ad fad _) rfl rfl rfl (Nat.le_of_ble_eq_true rfl) dX1_addVisit_29 ⟨by decide, by decide⟩ (fun r6 hqr6 hF => ?_)
  refine vv_aload_n C dX1_addVisit_32 0 rfl ?_
  refine vv_iload_n C dX1_addVisit_33 2 rfl ?_
  refine vv_callSi (fun r7 => r7) (fun r7 => (wX cy ad fad r6)) C eX_ok h0 [.int x2] [.ref (ad 27)] 1 hF (fun r7 hr7 => kX1_placeVisited l D (tysW cy) eX_ok (wX cy ad fad r6) x2 r7  hr7) gX1_addVisit_X1_placeVisited rfl rfl rfl (by decide +kernel) ⟨by decide, by decide⟩ rfl rfl (Nat.le_of_ble_eq_true rfl) dX1_addVisit_34 ⟨by decide, by decide⟩ (fun r7 hqr7 hF => ?_)
  refine vv_iload_n C dX1_addVisit_37 1 rfl ?_
  refine vv_iconst (v := 1) C dX1_addVisit_38 (by decide) ?_
  refine vv_callVv  (fun r8 => (wX cy ad fad r8)) C eX_ok h0 [.int r7, .int x1, .int 1] [] 3 hF (fun r8 hr8 => kX1_setWay l D cy ad fad r7 x1 1 r6 r8  hr8) gX1_addVisit_X1_setWay rfl rfl rfl (by decide +kernel) ⟨by decide, by decide⟩ 27 (wX_g27 cy ad fad _) rfl rfl rfl (Nat.le_of_ble_eq_true rfl) dX1_addVisit_39 ⟨by decide, by decide⟩ (fun r8 hqr8 hF => ?_)
  refine vv_aload_n C dX1_addVisit_42 0 rfl ?_
  refine vv_iload_n C dX1_addVisit_43 1 rfl ?_
  refine vv_iload_n C dX1_addVisit_44 2 rfl ?_
  refine vv_callVv  (fun r9 => (wX cy ad fad r9)) C eX_ok h0 [.int x1, .int x2] [] 2 hF (fun r9 hr9 => kX1_openByLimits l D cy ad fad x1 x2 r8 r9  hr9) gX1_addVisit_X1_openByLimits rfl rfl rfl (by decide +kernel) ⟨by decide, by decide⟩ 27 (wX_g27 cy ad fad _) rfl rfl rfl (Nat.le_of_ble_eq_true rfl) dX1_addVisit_45 ⟨by decide, by decide⟩ (fun r9 hqr9 hF => ?_)
  cases hF
  exact hr _ _ dX1_addVisit_48
/-! X1_dropVisit -/
abbrev rmX1_dropVisit : Room := { frames := 2, cells := 0, slots := 0, locals := 47 }
theorem hi_X1_dropVisit_X1 : ∀ w ∈ wsX10, w ∈ wsX1_dropVisit := fun w h => List.mem_cons_of_mem _ (List.mem_append_right _ h)
def fX1_dropVisit (x1 : Int32) (x2 : Int32) (σ : St_) : Option St_ := (gd_ x2 10 fun j1 => (gd_ x2 10 fun j2 => (gd_ x1 10 fun j3 => (gd_ x1 10 fun j4 => (bn_ (fX1_placeVisited x2) fun r5 => (bn_ (fX1_setWay x1 r5 1 (uM (uM σ 8 j2 ((sM σ 8 j1) &&& ((1 <<< (x1 &&& 31)) ^^^ (-1)))) 9 j4 ((sM (uM σ 8 j2 ((sM σ 8 j1) &&& ((1 <<< (x1 &&& 31)) ^^^ (-1)))) 9 j3) - 1))) fun r6 => (bn_ (fX1_placeVisited x2) fun r7 => (bn_ (fX1_setWay r7 x1 0 r6) fun r8 => (bn_ (fX1_openByLimits x1 x2 r8) fun r9 => some r9)))))))))
set_option maxHeartbeats 4000000 in
set_option maxRecDepth 20000 in
theorem kX1_dropVisit (l : Launch) (D : va_G) (cy : Nat → ClassId) (ad fad : Nat → Nat) (x1 : Int32) (x2 : Int32) (σ : St_) (res : St_)  (hF : fX1_dropVisit x1 x2 σ = some res) : ct_V l D (tysW cy) eX yX1_dropVisit wsX1_dropVisit rmX1_dropVisit [.ref (ad 27), .int x1, .int x2] (wX cy ad fad σ) (wX cy ad fad res) := by
  refine mt_V (by decide) rfl (Nat.le_of_ble_eq_true rfl) ?_
  intro p e s m args below meth c A Q C h0 hr
  replace C : vv_X p s m args meth c D (tysW cy) A 3 cX1_dropVisit RX1 wsX1_dropVisit := C
  replace hF : ((gd_ x2 10 fun j1 => (gd_ x2 10 fun j2 => (gd_ x1 10 fun j3 => (gd_ x1 10 fun j4 => (bn_ (fX1_placeVisited x2) fun r5 => (bn_ (fX1_setWay x1 r5 1 (uM (uM σ 8 j2 ((sM σ 8 j1) &&& ((1 <<< (x1 &&& 31)) ^^^ (-1)))) 9 j4 ((sM (uM σ 8 j2 ((sM σ 8 j1) &&& ((1 <<< (x1 &&& 31)) ^^^ (-1)))) 9 j3) - 1))) fun r6 => (bn_ (fX1_placeVisited x2) fun r7 => (bn_ (fX1_setWay r7 x1 0 r6) fun r8 => (bn_ (fX1_openByLimits x1 x2 r8) fun r9 => some r9))))))))) : Option St_) = some res := hF
  refine vv_lv [0, 1, 2] (lv' := [(0, .ref (ad 27)), (1, .int x1), (2, .int x2)]) rfl ?_
  refine vv_aload_n C dX1_dropVisit_0 0 rfl ?_
  refine vv_get (v := .ref (ad 8)) C (hi_X1_dropVisit_X1) 27 (wX_g27 cy ad fad _) rfl 3 (by decide) (List.mem_of_getElem? (i := 1) rfl) rfl dX1_dropVisit_1 ?_
  refine vv_iload_n C dX1_dropVisit_4 2 rfl ?_
  refine vv_dup2 C dX1_dropVisit_5 rfl rfl ?_
  refine vv_iald C 8 0 (wX_g8 cy ad fad _) (tysW_0 cy) hF dX1_dropVisit_6 (fun j1 hj1 hF => ?_)
  refine vv_iconst (v := 1) C dX1_dropVisit_7 (by decide) ?_
  refine vv_iload_n C dX1_dropVisit_8 1 rfl ?_
  refine vv_ishl C dX1_dropVisit_9 ?_
  refine vv_iconst (v := (-1)) C dX1_dropVisit_10 (by decide) ?_
  refine vv_ixor C dX1_dropVisit_11 ?_
  refine vv_iand C dX1_dropVisit_12 ?_
  refine vv_iast (w' := fun j2 => (wX cy ad fad (uM σ 8 j2 ((sM σ 8 j1) &&& ((1 <<< (x1 &&& 31)) ^^^ (-1)))))) C 8 0 (wX_g8 cy ad fad _) (tysW_0 cy) hF dX1_dropVisit_13 (fun _ => wX_a8 _ _ _ _ _) (fun j2 hj2 hF => ?_)
  refine vv_aload_n C dX1_dropVisit_14 0 rfl ?_
  refine vv_get (v := .ref (ad 9)) C (hi_X1_dropVisit_X1) 27 (wX_g27 cy ad fad _) rfl 4 (by decide) (List.mem_of_getElem? (i := 2) rfl) rfl dX1_dropVisit_15 ?_
  refine vv_iload_n C dX1_dropVisit_18 1 rfl ?_
  refine vv_dup2 C dX1_dropVisit_19 rfl rfl ?_
  refine vv_iald C 9 0 (wX_g9 cy ad fad _) (tysW_0 cy) hF dX1_dropVisit_20 (fun j3 hj3 hF => ?_)
  refine vv_iconst (v := 1) C dX1_dropVisit_21 (by decide) ?_
  refine vv_isub C dX1_dropVisit_22 ?_
  refine vv_iast (w' := fun j4 => (wX cy ad fad (uM (uM σ 8 j2 ((sM σ 8 j1) &&& ((1 <<< (x1 &&& 31)) ^^^ (-1)))) 9 j4 ((sM (uM σ 8 j2 ((sM σ 8 j1) &&& ((1 <<< (x1 &&& 31)) ^^^ (-1)))) 9 j3) - 1)))) C 9 0 (wX_g9 cy ad fad _) (tysW_0 cy) hF dX1_dropVisit_23 (fun _ => wX_a9 _ _ _ _ _) (fun j4 hj4 hF => ?_)
  refine vv_aload_n C dX1_dropVisit_24 0 rfl ?_
  refine vv_iload_n C dX1_dropVisit_25 1 rfl ?_
  refine vv_iload_n C dX1_dropVisit_26 2 rfl ?_
  refine vv_callSi (fun r5 => r5) (fun r5 => (wX cy ad fad (uM (uM σ 8 j2 ((sM σ 8 j1) &&& ((1 <<< (x1 &&& 31)) ^^^ (-1)))) 9 j4 ((sM (uM σ 8 j2 ((sM σ 8 j1) &&& ((1 <<< (x1 &&& 31)) ^^^ (-1)))) 9 j3) - 1)))) C eX_ok h0 [.int x2] [.int x1, .ref (ad 27)] 1 hF (fun r5 hr5 => kX1_placeVisited l D (tysW cy) eX_ok (wX cy ad fad (uM (uM σ 8 j2 ((sM σ 8 j1) &&& ((1 <<< (x1 &&& 31)) ^^^ (-1)))) 9 j4 ((sM (uM σ 8 j2 ((sM σ 8 j1) &&& ((1 <<< (x1 &&& 31)) ^^^ (-1)))) 9 j3) - 1))) x2 r5  hr5) gX1_dropVisit_X1_placeVisited rfl rfl rfl (by decide +kernel) ⟨by decide, by decide⟩ rfl rfl (Nat.le_of_ble_eq_true rfl) dX1_dropVisit_27 ⟨by decide, by decide⟩ (fun r5 hqr5 hF => ?_)
  refine vv_iconst (v := 1) C dX1_dropVisit_30 (by decide) ?_
  refine vv_callVv  (fun r6 => (wX cy ad fad r6)) C eX_ok h0 [.int x1, .int r5, .int 1] [] 3 hF (fun r6 hr6 => kX1_setWay l D cy ad fad x1 r5 1 (uM (uM σ 8 j2 ((sM σ 8 j1) &&& ((1 <<< (x1 &&& 31)) ^^^ (-1)))) 9 j4 ((sM (uM σ 8 j2 ((sM σ 8 j1) &&& ((1 <<< (x1 &&& 31)) ^^^ (-1)))) 9 j3) - 1)) r6  hr6) gX1_dropVisit_X1_setWay rfl rfl rfl (by decide +kernel) ⟨by decide, by decide⟩ 27 (wX_g27 cy ad fad _) rfl rfl rfl (Nat.le_of_ble_eq_true rfl) dX1_dropVisit_31 ⟨by decide, by decide⟩ (fun r6 hqr6 hF => ?_)
  refine vv_aload_n C dX1_dropVisit_34 0 rfl ?_
  refine vv_iload_n C dX1_dropVisit_35 2 rfl ?_
  refine vv_callSi (fun r7 => r7) (fun r7 => (wX cy ad fad r6)) C eX_ok h0 [.int x2] [.ref (ad 27)] 1 hF (fun r7 hr7 => kX1_placeVisited l D (tysW cy) eX_ok (wX cy ad fad r6) x2 r7  hr7) gX1_dropVisit_X1_placeVisited rfl rfl rfl (by decide +kernel) ⟨by decide, by decide⟩ rfl rfl (Nat.le_of_ble_eq_true rfl) dX1_dropVisit_36 ⟨by decide, by decide⟩ (fun r7 hqr7 hF => ?_)
  refine vv_iload_n C dX1_dropVisit_39 1 rfl ?_
  refine vv_iconst (v := 0) C dX1_dropVisit_40 (by decide) ?_
  refine vv_callVv  (fun r8 => (wX cy ad fad r8)) C eX_ok h0 [.int r7, .int x1, .int 0] [] 3 hF (fun r8 hr8 => kX1_setWay l D cy ad fad r7 x1 0 r6 r8  hr8) gX1_dropVisit_X1_setWay rfl rfl rfl (by decide +kernel) ⟨by decide, by decide⟩ 27 (wX_g27 cy ad fad _) rfl rfl rfl (Nat.le_of_ble_eq_true rfl) dX1_dropVisit_41 ⟨by decide, by decide⟩ (fun r8 hqr8 hF => ?_)
  refine vv_aload_n C dX1_dropVisit_44 0 rfl ?_
  refine vv_iload_n C dX1_dropVisit_45 1 rfl ?_
  refine vv_iload_n C dX1_dropVisit_46 2 rfl ?_
  refine vv_callVv  (fun r9 => (wX cy ad fad r9)) C eX_ok h0 [.int x1, .int x2] [] 2 hF (fun r9 hr9 => kX1_openByLimits l D cy ad fad x1 x2 r8 r9  hr9) gX1_dropVisit_X1_openByLimits rfl rfl rfl (by decide +kernel) ⟨by decide, by decide⟩ 27 (wX_g27 cy ad fad _) rfl rfl rfl (Nat.le_of_ble_eq_true rfl) dX1_dropVisit_47 ⟨by decide, by decide⟩ (fun r9 hqr9 hF => ?_)
  cases hF
  exact hr _ _ dX1_dropVisit_50
/-! X1_moveVisit -/
abbrev rmX1_moveVisit : Room := { frames := 3, cells := 0, slots := 0, locals := 69 }
def fX1_moveVisit_30 (x1 : Int32) (x2 : Int32) (σ : St_) : Option St_ := (if 10 ≤ x2 then some σ else (bn_ (fX5_isBelow (x1 - 10) 10) fun r5 => (if r5 = 0 then some σ else (bn_ (fX1_dropVisit x2 (x1 - 10) σ) fun r6 => some r6))))
def fX1_moveVisit (x1 : Int32) (x2 : Int32) (σ : St_) : Option St_ := (if 10 ≤ x1 then fX1_moveVisit_30  x1 x2 σ else (bn_ (fX5_isBelow (x2 - 10) 10) fun r1 => (if r1 = 0 then fX1_moveVisit_30  x1 x2 σ else (bn_ (fX1_addVisit x1 (x2 - 10) σ) fun r2 => some r2))))
set_option maxHeartbeats 4000000 in
set_option maxRecDepth 20000 in
theorem vX1_moveVisit_30 {p : Program} {l : Launch} {e : Env} {s : State} {m : MethodId} {args : Array Value} {below : List Frame} {meth : Method} {c : Code} {D : va_G} {A : Nat → Prop} {Q : State → Prop} {cy : Nat → ClassId} {ad fad : Nat → Nat} {res : St_} (C : vv_X p s m args meth c D (tysW cy) A 3 cX1_moveVisit RX1 wsX1_moveVisit) (h0 : eX A s) (hr : rt_V p l e rmX1_moveVisit s m args below meth c D A 3 Q cX1_moveVisit (wX cy ad fad res)) : ∀ (x1 : Int32) (x2 : Int32) (σ : St_), fX1_moveVisit_30  x1 x2 σ = some res → vv_ p l e rmX1_moveVisit s m args below meth c D A 3 Q 0 0 (wX cy ad fad σ) [(0, .ref (ad 27)), (1, .int x1), (2, .int x2)] 30 [] := by
  intro x1 x2 σ hF
  replace hF : ((if 10 ≤ x2 then some σ else (bn_ (fX5_isBelow (x1 - 10) 10) fun r5 => (if r5 = 0 then some σ else (bn_ (fX1_dropVisit x2 (x1 - 10) σ) fun r6 => some r6)))) : Option St_) = some res := hF
  refine vv_iload_n C dX1_moveVisit_30 2 rfl ?_
  refine vv_bipush (v := 10) C dX1_moveVisit_31 (by decide) ?_
  refine vv_icmp_ge (tgt := 57) C dX1_moveVisit_33 (by decide) hF (fun c8 hF => ?_) (fun c8 hF => ?_)
  · cases hF
    exact hr _ _ dX1_moveVisit_57
  · refine vv_iload_n C dX1_moveVisit_36 1 rfl ?_
    refine vv_bipush (v := 10) C dX1_moveVisit_37 (by decide) ?_
    refine vv_isub C dX1_moveVisit_39 ?_
    refine vv_bipush (v := 10) C dX1_moveVisit_40 (by decide) ?_
    refine vv_callNi (fun r5 => r5) (fun r5 => (wX cy ad fad σ)) C eX_ok h0 [.int (x1 - 10), .int 10] [] 2 hF (fun r5 hr5 => kX5_isBelow l D (tysW cy) eX_ok (wX cy ad fad σ) (x1 - 10) 10 r5  hr5) gX1_moveVisit_X5_isBelow_n76 (eX_nX1_76 h0) (List.mem_of_getElem? (i := 2) rfl) (List.mem_of_getElem? (i := 1) rfl) rfl rfl rfl (by decide +kernel) ⟨by decide, by decide⟩ rfl rfl (Nat.le_of_ble_eq_true rfl) dX1_moveVisit_42 ⟨by decide, by decide⟩ (fun r5 hqr5 hF => ?_)
    refine vv_if_eq (tgt := 57) C dX1_moveVisit_45 (by decide) hF (fun c7 hF => ?_) (fun c7 hF => ?_)
    · cases hF
      exact hr _ _ dX1_moveVisit_57
    · refine vv_aload_n C dX1_moveVisit_48 0 rfl ?_
      refine vv_iload_n C dX1_moveVisit_49 2 rfl ?_
      refine vv_iload_n C dX1_moveVisit_50 1 rfl ?_
      refine vv_bipush (v := 10) C dX1_moveVisit_51 (by decide) ?_
      refine vv_isub C dX1_moveVisit_53 ?_
      refine vv_callVv  (fun r6 => (wX cy ad fad r6)) C eX_ok h0 [.int x2, .int (x1 - 10)] [] 2 hF (fun r6 hr6 => kX1_dropVisit l D cy ad fad x2 (x1 - 10) σ r6  hr6) gX1_moveVisit_X1_dropVisit rfl rfl rfl (by decide +kernel) ⟨by decide, by decide⟩ 27 (wX_g27 cy ad fad _) rfl rfl rfl (Nat.le_of_ble_eq_true rfl) dX1_moveVisit_54 ⟨by decide, by decide⟩ (fun r6 hqr6 hF => ?_)
      cases hF
      exact hr _ _ dX1_moveVisit_57
set_option maxHeartbeats 4000000 in
set_option maxRecDepth 20000 in
theorem kX1_moveVisit (l : Launch) (D : va_G) (cy : Nat → ClassId) (ad fad : Nat → Nat) (x1 : Int32) (x2 : Int32) (σ : St_) (res : St_)  (hF : fX1_moveVisit x1 x2 σ = some res) : ct_V l D (tysW cy) eX yX1_moveVisit wsX1_moveVisit rmX1_moveVisit [.ref (ad 27), .int x1, .int x2] (wX cy ad fad σ) (wX cy ad fad res) := by
  refine mt_V (by decide) rfl (Nat.le_of_ble_eq_true rfl) ?_
  intro p e s m args below meth c A Q C h0 hr
  replace C : vv_X p s m args meth c D (tysW cy) A 3 cX1_moveVisit RX1 wsX1_moveVisit := C
  replace hF : ((if 10 ≤ x1 then fX1_moveVisit_30  x1 x2 σ else (bn_ (fX5_isBelow (x2 - 10) 10) fun r1 => (if r1 = 0 then fX1_moveVisit_30  x1 x2 σ else (bn_ (fX1_addVisit x1 (x2 - 10) σ) fun r2 => some r2)))) : Option St_) = some res := hF
  refine vv_lv [0, 1, 2] (lv' := [(0, .ref (ad 27)), (1, .int x1), (2, .int x2)]) rfl ?_
  refine vv_iload_n C dX1_moveVisit_0 1 rfl ?_
  refine vv_bipush (v := 10) C dX1_moveVisit_1 (by decide) ?_
  refine vv_icmp_ge (tgt := 30) C dX1_moveVisit_3 (by decide) hF (fun c4 hF => ?_) (fun c4 hF => ?_)
  · refine vv_lv [0, 1, 2] rfl ?_
    exact vX1_moveVisit_30 C h0 hr  x1 x2 σ  hF
  · refine vv_iload_n C dX1_moveVisit_6 2 rfl ?_
    refine vv_bipush (v := 10) C dX1_moveVisit_7 (by decide) ?_
    refine vv_isub C dX1_moveVisit_9 ?_
    refine vv_bipush (v := 10) C dX1_moveVisit_10 (by decide) ?_
    refine vv_callNi (fun r1 => r1) (fun r1 => (wX cy ad fad σ)) C eX_ok h0 [.int (x2 - 10), .int 10] [] 2 hF (fun r1 hr1 => kX5_isBelow l D (tysW cy) eX_ok (wX cy ad fad σ) (x2 - 10) 10 r1  hr1) gX1_moveVisit_X5_isBelow_n76 (eX_nX1_76 h0) (List.mem_of_getElem? (i := 2) rfl) (List.mem_of_getElem? (i := 1) rfl) rfl rfl rfl (by decide +kernel) ⟨by decide, by decide⟩ rfl rfl (Nat.le_of_ble_eq_true rfl) dX1_moveVisit_12 ⟨by decide, by decide⟩ (fun r1 hqr1 hF => ?_)
    refine vv_if_eq (tgt := 30) C dX1_moveVisit_15 (by decide) hF (fun c3 hF => ?_) (fun c3 hF => ?_)
    · refine vv_lv [0, 1, 2] rfl ?_
      exact vX1_moveVisit_30 C h0 hr  x1 x2 σ  hF
    · refine vv_aload_n C dX1_moveVisit_18 0 rfl ?_
      refine vv_iload_n C dX1_moveVisit_19 1 rfl ?_
      refine vv_iload_n C dX1_moveVisit_20 2 rfl ?_
      refine vv_bipush (v := 10) C dX1_moveVisit_21 (by decide) ?_
      refine vv_isub C dX1_moveVisit_23 ?_
      refine vv_callVv  (fun r2 => (wX cy ad fad r2)) C eX_ok h0 [.int x1, .int (x2 - 10)] [] 2 hF (fun r2 hr2 => kX1_addVisit l D cy ad fad x1 (x2 - 10) σ r2  hr2) gX1_moveVisit_X1_addVisit rfl rfl rfl (by decide +kernel) ⟨by decide, by decide⟩ 27 (wX_g27 cy ad fad _) rfl rfl rfl (Nat.le_of_ble_eq_true rfl) dX1_moveVisit_24 ⟨by decide, by decide⟩ (fun r2 hqr2 hF => ?_)
      refine vv_goto (tgt := 57) C dX1_moveVisit_27 (by decide) ?_
      cases hF
      exact hr _ _ dX1_moveVisit_57
/-! X1_findPath -/
abbrev rmX1_findPath : Room := { frames := 2, cells := 0, slots := 0, locals := 40 }
theorem hi_X1_findPath_X1 : ∀ w ∈ wsX10, w ∈ wsX1_findPath := fun w h => List.mem_cons_of_mem _ (List.mem_append_right _ h)
def fX1_findPath_114 (k17 : Int32 → Int32 → Int32 → Int32 → St_ → Option (Int32 × St_)) (x2 : Int32) (x3 : Int32) (x4 : Int32) (x5 : Int32) (σ : St_) : Option (Int32 × St_) := (bn_ (fX5_hasBit x3 x2) fun r11 => (if r11 = 0 then k17 x2 x3 x4 (x5 + 1) σ else some (1, σ)))
def fX1_findPath_62 (k17 : Int32 → Int32 → Int32 → Int32 → St_ → Option (Int32 × St_)) : Nat → Int32 → Int32 → Int32 → Int32 → Int32 → Int32 → St_ → Option (Int32 × St_)
  | 0, _, _, _, _, _, _, _ => none
  | n + 1, x2, x3, x4, x5, x6, x8, σ => (if x8 = 0 then fX1_findPath_114 (k17) x2 x3 x4 x5 σ else (if 22 ≤ x4 then fX1_findPath_114 (k17) x2 x3 x4 x5 σ else (bn_ (fX1_lowestBit x8) fun r6 => (gd_ r6 22 fun j7 => (gd_ x4 22 fun j8 => fX1_findPath_62 k17 n x2 x3 (x4 + 1) x5 x6 (x8 &&& (x8 - 1)) (uM (uM σ 6 j7 x6) 7 j8 r6))))))
def fX1_findPath_17 : Nat → Int32 → Int32 → Int32 → Int32 → St_ → Option (Int32 × St_)
  | 0, _, _, _, _, _ => none
  | n + 1, x2, x3, x4, x5, σ => (if x4 ≤ x5 then some (0, σ) else (if 22 ≤ x5 then some (0, σ) else (gd_ x5 22 fun j2 => (gd_ (sM σ 7 j2) 22 fun j3 => fX1_findPath_62 (fX1_findPath_17  n) FU_ x2 (x3 ||| ((sM σ 5 j3) &&& (x3 ^^^ (-1)))) x4 x5 (sM σ 7 j2) ((sM σ 5 j3) &&& (x3 ^^^ (-1))) σ))))
def fX1_findPath (x1 : Int32) (x2 : Int32) (σ : St_) : Option (Int32 × St_) := (gd_ 0 22 fun j1 => fX1_findPath_17  FU_ x2 (1 <<< (x1 &&& 31)) 1 0 (uM σ 7 j1 x1))
set_option maxHeartbeats 4000000 in
set_option maxRecDepth 20000 in
theorem vX1_findPath_114 {p : Program} {l : Launch} {e : Env} {s : State} {m : MethodId} {args : Array Value} {below : List Frame} {meth : Method} {c : Code} {D : va_G} {A : Nat → Prop} {Q : State → Prop} {cy : Nat → ClassId} {ad fad : Nat → Nat} {k17 : Int32 → Int32 → Int32 → Int32 → St_ → Option (Int32 × St_)} {res : Int32 × St_} (C : vv_X p s m args meth c D (tysW cy) A 10 cX1_findPath RX1 wsX1_findPath) (h0 : eX A s) (hr : rt_I p l e rmX1_findPath s m args below meth c D A 10 Q cX1_findPath .boolean (wX cy ad fad res.2) res.1) (hk17 : ∀ (x2 : Int32) (x3 : Int32) (x4 : Int32) (x5 : Int32) (σ : St_), k17 x2 x3 x4 x5 σ = some res → vv_ p l e rmX1_findPath s m args below meth c D A 10 Q 0 0 (wX cy ad fad σ) [(0, .ref (ad 27)), (2, .int x2), (3, .int x3), (4, .int x4), (5, .int x5)] 17 []) : ∀ (x2 : Int32) (x3 : Int32) (x4 : Int32) (x5 : Int32) (σ : St_), fX1_findPath_114 k17 x2 x3 x4 x5 σ = some res → vv_ p l e rmX1_findPath s m args below meth c D A 10 Q 0 0 (wX cy ad fad σ) [(0, .ref (ad 27)), (2, .int x2), (3, .int x3), (4, .int x4), (5, .int x5)] 114 [] := by
  intro x2 x3 x4 x5 σ hF
  replace hF : ((bn_ (fX5_hasBit x3 x2) fun r11 => (if r11 = 0 then k17 x2 x3 x4 (x5 + 1) σ else some (1, σ))) : Option (Int32 × St_)) = some res := hF
  refine vv_iload_n C dX1_findPath_114 2 rfl ?_
  refine vv_iload_n C dX1_findPath_115 1 rfl ?_
  refine vv_callNi (fun r11 => r11) (fun r11 => (wX cy ad fad σ)) C eX_ok h0 [.int x3, .int x2] [] 2 hF (fun r11 hr11 => kX5_hasBit l D (tysW cy) eX_ok (wX cy ad fad σ) x3 x2 r11  hr11) gX1_findPath_X5_hasBit_n59 (eX_nX1_59 h0) (List.mem_of_getElem? (i := 16) rfl) (List.mem_of_getElem? (i := 15) rfl) rfl rfl rfl (by decide +kernel) ⟨by decide, by decide⟩ rfl rfl (Nat.le_of_ble_eq_true rfl) dX1_findPath_116 ⟨by decide, by decide⟩ (fun r11 hqr11 hF => ?_)
  refine vv_if_eq (tgt := 124) C dX1_findPath_119 (by decide) hF (fun c12 hF => ?_) (fun c12 hF => ?_)
  · refine vv_iinc (q := 4) (v := x5 + 1) (lv' := [(5, .int (x5 + 1)), (0, .ref (ad 27)), (2, .int x2), (3, .int x3), (4, .int x4)]) C dX1_findPath_124 rfl rfl (by decide) rfl ?_
    refine vv_goto (tgt := 17) C dX1_findPath_127 (by decide) ?_
    refine vv_lv [1, 2, 3, 4, 0] rfl ?_
    exact hk17 x2 x3 x4 (x5 + 1) σ  hF
  · refine vv_iconst (v := 1) C dX1_findPath_122 (by decide) ?_
    cases hF
    exact hr _ _ dX1_findPath_123 nb_Z1
set_option maxHeartbeats 4000000 in
set_option maxRecDepth 20000 in
theorem vX1_findPath_62 {p : Program} {l : Launch} {e : Env} {s : State} {m : MethodId} {args : Array Value} {below : List Frame} {meth : Method} {c : Code} {D : va_G} {A : Nat → Prop} {Q : State → Prop} {cy : Nat → ClassId} {ad fad : Nat → Nat} {k17 : Int32 → Int32 → Int32 → Int32 → St_ → Option (Int32 × St_)} {res : Int32 × St_} (C : vv_X p s m args meth c D (tysW cy) A 10 cX1_findPath RX1 wsX1_findPath) (h0 : eX A s) (hr : rt_I p l e rmX1_findPath s m args below meth c D A 10 Q cX1_findPath .boolean (wX cy ad fad res.2) res.1) (hk17 : ∀ (x2 : Int32) (x3 : Int32) (x4 : Int32) (x5 : Int32) (σ : St_), k17 x2 x3 x4 x5 σ = some res → vv_ p l e rmX1_findPath s m args below meth c D A 10 Q 0 0 (wX cy ad fad σ) [(0, .ref (ad 27)), (2, .int x2), (3, .int x3), (4, .int x4), (5, .int x5)] 17 []) : ∀ (n : Nat) (x2 : Int32) (x3 : Int32) (x4 : Int32) (x5 : Int32) (x6 : Int32) (x8 : Int32) (σ : St_), fX1_findPath_62 k17 n x2 x3 x4 x5 x6 x8 σ = some res → vv_ p l e rmX1_findPath s m args below meth c D A 10 Q 0 0 (wX cy ad fad σ) [(0, .ref (ad 27)), (2, .int x2), (3, .int x3), (4, .int x4), (5, .int x5), (6, .int x6), (8, .int x8)] 62 [] := by
  intro n
  induction n with
  | zero =>
    intro x2 x3 x4 x5 x6 x8 σ hF
    cases (show none = some res from hF)
  | succ n ih =>
    intro x2 x3 x4 x5 x6 x8 σ hF
    replace hF : ((if x8 = 0 then fX1_findPath_114 (k17) x2 x3 x4 x5 σ else (if 22 ≤ x4 then fX1_findPath_114 (k17) x2 x3 x4 x5 σ else (bn_ (fX1_lowestBit x8) fun r6 => (gd_ r6 22 fun j7 => (gd_ x4 22 fun j8 => fX1_findPath_62 k17 n x2 x3 (x4 + 1) x5 x6 (x8 &&& (x8 - 1)) (uM (uM σ 6 j7 x6) 7 j8 r6)))))) : Option (Int32 × St_)) = some res := hF
    refine vv_iload C dX1_findPath_62 6 rfl ?_
    refine vv_if_eq (tgt := 114) C dX1_findPath_64 (by decide) hF (fun c10 hF => ?_) (fun c10 hF => ?_)
    · refine vv_lv [0, 1, 2, 3, 4] rfl ?_
      exact vX1_findPath_114 C h0 hr (hk17) x2 x3 x4 x5 σ  hF
    · refine vv_iload C dX1_findPath_67 3 rfl ?_
      refine vv_bipush (v := 22) C dX1_findPath_69 (by decide) ?_
      refine vv_icmp_ge (tgt := 114) C dX1_findPath_71 (by decide) hF (fun c9 hF => ?_) (fun c9 hF => ?_)
      · refine vv_lv [0, 1, 2, 3, 4] rfl ?_
        exact vX1_findPath_114 C h0 hr (hk17) x2 x3 x4 x5 σ  hF
      · refine vv_iload C dX1_findPath_74 6 rfl ?_
        refine vv_callSi (fun r6 => r6) (fun r6 => (wX cy ad fad σ)) C eX_ok h0 [.int x8] [] 1 hF (fun r6 hr6 => kX1_lowestBit l D (tysW cy) eX_ok (wX cy ad fad σ) x8 r6  hr6) gX1_findPath_X1_lowestBit rfl rfl rfl (by decide +kernel) ⟨by decide, by decide⟩ rfl rfl (Nat.le_of_ble_eq_true rfl) dX1_findPath_76 ⟨by decide, by decide⟩ (fun r6 hqr6 hF => ?_)
        refine vv_istore (lv' := [(9, .int r6), (0, .ref (ad 27)), (2, .int x2), (3, .int x3), (4, .int x4), (5, .int x5), (6, .int x6), (8, .int x8)]) C dX1_findPath_79 (by decide) rfl ?_
        refine vv_aload_n C dX1_findPath_81 1 rfl ?_
        refine vv_get (v := .ref (ad 6)) C (hi_X1_findPath_X1) 27 (wX_g27 cy ad fad _) rfl 1 (by decide) (List.mem_of_getElem? (i := 3) rfl) rfl dX1_findPath_82 ?_
        refine vv_iload C dX1_findPath_85 0 rfl ?_
        refine vv_iload C dX1_findPath_87 6 rfl ?_
        refine vv_iast (w' := fun j7 => (wX cy ad fad (uM σ 6 j7 x6))) C 6 0 (wX_g6 cy ad fad _) (tysW_0 cy) hF dX1_findPath_89 (fun _ => wX_a6 _ _ _ _ _) (fun j7 hj7 hF => ?_)
        refine vv_aload_n C dX1_findPath_90 1 rfl ?_
        refine vv_get (v := .ref (ad 7)) C (hi_X1_findPath_X1) 27 (wX_g27 cy ad fad _) rfl 2 (by decide) (List.mem_of_getElem? (i := 1) rfl) rfl dX1_findPath_91 ?_
        refine vv_iload C dX1_findPath_94 4 rfl ?_
        refine vv_iload C dX1_findPath_96 0 rfl ?_
        refine vv_iast (w' := fun j8 => (wX cy ad fad (uM (uM σ 6 j7 x6) 7 j8 r6))) C 7 0 (wX_g7 cy ad fad _) (tysW_0 cy) hF dX1_findPath_98 (fun _ => wX_a7 _ _ _ _ _) (fun j8 hj8 hF => ?_)
        refine vv_iinc (q := 4) (v := x4 + 1) (lv' := [(4, .int (x4 + 1)), (9, .int r6), (0, .ref (ad 27)), (2, .int x2), (3, .int x3), (5, .int x5), (6, .int x6), (8, .int x8)]) C dX1_findPath_99 rfl rfl (by decide) rfl ?_
        refine vv_iload C dX1_findPath_102 7 rfl ?_
        refine vv_iload C dX1_findPath_104 7 rfl ?_
        refine vv_iconst (v := 1) C dX1_findPath_106 (by decide) ?_
        refine vv_isub C dX1_findPath_107 ?_
        refine vv_iand C dX1_findPath_108 ?_
        refine vv_istore (lv' := [(8, .int (x8 &&& (x8 - 1))), (4, .int (x4 + 1)), (9, .int r6), (0, .ref (ad 27)), (2, .int x2), (3, .int x3), (5, .int x5), (6, .int x6)]) C dX1_findPath_109 (by decide) rfl ?_
        refine vv_goto (tgt := 62) C dX1_findPath_111 (by decide) ?_
        refine vv_lv [3, 4, 5, 1, 6, 7, 0] rfl ?_
        exact ih x2 x3 (x4 + 1) x5 x6 (x8 &&& (x8 - 1)) (uM (uM σ 6 j7 x6) 7 j8 r6)  hF
set_option maxHeartbeats 4000000 in
set_option maxRecDepth 20000 in
theorem vX1_findPath_17 {p : Program} {l : Launch} {e : Env} {s : State} {m : MethodId} {args : Array Value} {below : List Frame} {meth : Method} {c : Code} {D : va_G} {A : Nat → Prop} {Q : State → Prop} {cy : Nat → ClassId} {ad fad : Nat → Nat} {res : Int32 × St_} (C : vv_X p s m args meth c D (tysW cy) A 10 cX1_findPath RX1 wsX1_findPath) (h0 : eX A s) (hr : rt_I p l e rmX1_findPath s m args below meth c D A 10 Q cX1_findPath .boolean (wX cy ad fad res.2) res.1) : ∀ (n : Nat) (x2 : Int32) (x3 : Int32) (x4 : Int32) (x5 : Int32) (σ : St_), fX1_findPath_17  n x2 x3 x4 x5 σ = some res → vv_ p l e rmX1_findPath s m args below meth c D A 10 Q 0 0 (wX cy ad fad σ) [(0, .ref (ad 27)), (2, .int x2), (3, .int x3), (4, .int x4), (5, .int x5)] 17 [] := by
  intro n
  induction n with
  | zero =>
    intro x2 x3 x4 x5 σ hF
    cases (show none = some res from hF)
  | succ n ih =>
    intro x2 x3 x4 x5 σ hF
    replace hF : ((if x4 ≤ x5 then some (0, σ) else (if 22 ≤ x5 then some (0, σ) else (gd_ x5 22 fun j2 => (gd_ (sM σ 7 j2) 22 fun j3 => fX1_findPath_62 (fX1_findPath_17  n) FU_ x2 (x3 ||| ((sM σ 5 j3) &&& (x3 ^^^ (-1)))) x4 x5 (sM σ 7 j2) ((sM σ 5 j3) &&& (x3 ^^^ (-1))) σ)))) : Option (Int32 × St_)) = some res := hF
    refine vv_iload C dX1_findPath_17 4 rfl ?_
    refine vv_iload C dX1_findPath_19 3 rfl ?_
    refine vv_icmp_ge (tgt := 130) C dX1_findPath_21 (by decide) hF (fun c5 hF => ?_) (fun c5 hF => ?_)
    · refine vv_iconst (v := 0) C dX1_findPath_130 (by decide) ?_
      cases hF
      exact hr _ _ dX1_findPath_131 nb_Z0
    · refine vv_iload C dX1_findPath_24 4 rfl ?_
      refine vv_bipush (v := 22) C dX1_findPath_26 (by decide) ?_
      refine vv_icmp_ge (tgt := 130) C dX1_findPath_28 (by decide) hF (fun c4 hF => ?_) (fun c4 hF => ?_)
      · refine vv_iconst (v := 0) C dX1_findPath_130 (by decide) ?_
        cases hF
        exact hr _ _ dX1_findPath_131 nb_Z0
      · refine vv_aload_n C dX1_findPath_31 0 rfl ?_
        refine vv_get (v := .ref (ad 7)) C (hi_X1_findPath_X1) 27 (wX_g27 cy ad fad _) rfl 2 (by decide) (List.mem_of_getElem? (i := 1) rfl) rfl dX1_findPath_32 ?_
        refine vv_iload C dX1_findPath_35 4 rfl ?_
        refine vv_iald C 7 0 (wX_g7 cy ad fad _) (tysW_0 cy) hF dX1_findPath_37 (fun j2 hj2 hF => ?_)
        refine vv_istore (lv' := [(6, .int (sM σ 7 j2)), (0, .ref (ad 27)), (2, .int x2), (3, .int x3), (4, .int x4), (5, .int x5)]) C dX1_findPath_38 (by decide) rfl ?_
        refine vv_aload_n C dX1_findPath_40 1 rfl ?_
        refine vv_get (v := .ref (ad 5)) C (hi_X1_findPath_X1) 27 (wX_g27 cy ad fad _) rfl 0 (by decide) (List.mem_of_getElem? (i := 2) rfl) rfl dX1_findPath_41 ?_
        refine vv_iload C dX1_findPath_44 0 rfl ?_
        refine vv_iald C 5 0 (wX_g5 cy ad fad _) (tysW_0 cy) hF dX1_findPath_46 (fun j3 hj3 hF => ?_)
        refine vv_iload_n C dX1_findPath_47 3 rfl ?_
        refine vv_iconst (v := (-1)) C dX1_findPath_48 (by decide) ?_
        refine vv_ixor C dX1_findPath_49 ?_
        refine vv_iand C dX1_findPath_50 ?_
        refine vv_istore (lv' := [(7, .int ((sM σ 5 j3) &&& (x3 ^^^ (-1)))), (6, .int (sM σ 7 j2)), (0, .ref (ad 27)), (2, .int x2), (3, .int x3), (4, .int x4), (5, .int x5)]) C dX1_findPath_51 (by decide) rfl ?_
        refine vv_iload_n C dX1_findPath_53 4 rfl ?_
        refine vv_iload C dX1_findPath_54 0 rfl ?_
        refine vv_ior C dX1_findPath_56 ?_
        refine vv_istore_n (lv' := [(3, .int (x3 ||| ((sM σ 5 j3) &&& (x3 ^^^ (-1))))), (7, .int ((sM σ 5 j3) &&& (x3 ^^^ (-1)))), (6, .int (sM σ 7 j2)), (0, .ref (ad 27)), (2, .int x2), (4, .int x4), (5, .int x5)]) C dX1_findPath_57 (by decide) rfl ?_
        refine vv_iload C dX1_findPath_58 1 rfl ?_
        refine vv_istore (lv' := [(8, .int ((sM σ 5 j3) &&& (x3 ^^^ (-1)))), (3, .int (x3 ||| ((sM σ 5 j3) &&& (x3 ^^^ (-1))))), (7, .int ((sM σ 5 j3) &&& (x3 ^^^ (-1)))), (6, .int (sM σ 7 j2)), (0, .ref (ad 27)), (2, .int x2), (4, .int x4), (5, .int x5)]) C dX1_findPath_60 (by decide) rfl ?_
        refine vv_lv [4, 5, 1, 6, 7, 3, 0] rfl ?_
        exact vX1_findPath_62 C h0 hr (ih) FU_ x2 (x3 ||| ((sM σ 5 j3) &&& (x3 ^^^ (-1)))) x4 x5 (sM σ 7 j2) ((sM σ 5 j3) &&& (x3 ^^^ (-1))) σ  hF
set_option maxHeartbeats 4000000 in
set_option maxRecDepth 20000 in
theorem kX1_findPath (l : Launch) (D : va_G) (cy : Nat → ClassId) (ad fad : Nat → Nat) (x1 : Int32) (x2 : Int32) (σ : St_) (res : Int32 × St_)  (hF : fX1_findPath x1 x2 σ = some res) : ct_I l D (tysW cy) eX yX1_findPath wsX1_findPath rmX1_findPath [.ref (ad 27), .int x1, .int x2] (wX cy ad fad σ) res.1 (wX cy ad fad res.2) := by
  refine mt_I (by decide) rfl (Nat.le_of_ble_eq_true rfl) ?_
  intro p e s m args below meth c A Q C h0 hr
  replace C : vv_X p s m args meth c D (tysW cy) A 10 cX1_findPath RX1 wsX1_findPath := C
  replace hF : ((gd_ 0 22 fun j1 => fX1_findPath_17  FU_ x2 (1 <<< (x1 &&& 31)) 1 0 (uM σ 7 j1 x1)) : Option (Int32 × St_)) = some res := hF
  refine vv_lv [0, 1, 2] (lv' := [(0, .ref (ad 27)), (1, .int x1), (2, .int x2)]) rfl ?_
  refine vv_iconst (v := 1) C dX1_findPath_0 (by decide) ?_
  refine vv_iload_n C dX1_findPath_1 1 rfl ?_
  refine vv_ishl C dX1_findPath_2 ?_
  refine vv_istore_n (lv' := [(3, .int (1 <<< (x1 &&& 31))), (0, .ref (ad 27)), (1, .int x1), (2, .int x2)]) C dX1_findPath_3 (by decide) rfl ?_
  refine vv_iconst (v := 1) C dX1_findPath_4 (by decide) ?_
  refine vv_istore (lv' := [(4, .int 1), (3, .int (1 <<< (x1 &&& 31))), (0, .ref (ad 27)), (1, .int x1), (2, .int x2)]) C dX1_findPath_5 (by decide) rfl ?_
  refine vv_aload_n C dX1_findPath_7 2 rfl ?_
  refine vv_get (v := .ref (ad 7)) C (hi_X1_findPath_X1) 27 (wX_g27 cy ad fad _) rfl 2 (by decide) (List.mem_of_getElem? (i := 1) rfl) rfl dX1_findPath_8 ?_
  refine vv_iconst (v := 0) C dX1_findPath_11 (by decide) ?_
  refine vv_iload_n C dX1_findPath_12 3 rfl ?_
  refine vv_iast (w' := fun j1 => (wX cy ad fad (uM σ 7 j1 x1))) C 7 0 (wX_g7 cy ad fad _) (tysW_0 cy) hF dX1_findPath_13 (fun _ => wX_a7 _ _ _ _ _) (fun j1 hj1 hF => ?_)
  refine vv_iconst (v := 0) C dX1_findPath_14 (by decide) ?_
  refine vv_istore (lv' := [(5, .int 0), (4, .int 1), (3, .int (1 <<< (x1 &&& 31))), (0, .ref (ad 27)), (1, .int x1), (2, .int x2)]) C dX1_findPath_15 (by decide) rfl ?_
  refine vv_lv [3, 5, 2, 1, 0] rfl ?_
  exact vX1_findPath_17 C h0 hr  FU_ x2 (1 <<< (x1 &&& 31)) 1 0 (uM σ 7 j1 x1)  hF
/-! X1_followPath -/
abbrev rmX1_followPath : Room := { frames := 4, cells := 0, slots := 0, locals := 91 }
theorem hi_X1_followPath_X1 : ∀ w ∈ wsX10, w ∈ wsX1_followPath := fun w h => List.mem_cons_of_mem _ (List.mem_append_right _ h)
def fX1_followPath_5 : Nat → Int32 → Int32 → Int32 → St_ → Option St_
  | 0, _, _, _, _ => none
  | n + 1, x1, x3, x4, σ => (if 22 ≤ x4 then some σ else (if x3 = x1 then some σ else (gd_ x3 22 fun j1 => (bn_ (fX1_moveVisit (sM σ 6 j1) x3 σ) fun r2 => fX1_followPath_5  n x1 (sM σ 6 j1) (x4 + 1) r2))))
def fX1_followPath (x1 : Int32) (x2 : Int32) (σ : St_) : Option St_ := fX1_followPath_5  FU_ x1 x2 0 σ
set_option maxHeartbeats 4000000 in
set_option maxRecDepth 20000 in
theorem vX1_followPath_5 {p : Program} {l : Launch} {e : Env} {s : State} {m : MethodId} {args : Array Value} {below : List Frame} {meth : Method} {c : Code} {D : va_G} {A : Nat → Prop} {Q : State → Prop} {cy : Nat → ClassId} {ad fad : Nat → Nat} {res : St_} (C : vv_X p s m args meth c D (tysW cy) A 6 cX1_followPath RX1 wsX1_followPath) (h0 : eX A s) (hr : rt_V p l e rmX1_followPath s m args below meth c D A 6 Q cX1_followPath (wX cy ad fad res)) : ∀ (n : Nat) (x1 : Int32) (x3 : Int32) (x4 : Int32) (σ : St_), fX1_followPath_5  n x1 x3 x4 σ = some res → vv_ p l e rmX1_followPath s m args below meth c D A 6 Q 0 0 (wX cy ad fad σ) [(0, .ref (ad 27)), (1, .int x1), (3, .int x3), (4, .int x4)] 5 [] := by
  intro n
  induction n with
  | zero =>
    intro x1 x3 x4 σ hF
    cases (show none = some res from hF)
  | succ n ih =>
    intro x1 x3 x4 σ hF
    replace hF : ((if 22 ≤ x4 then some σ else (if x3 = x1 then some σ else (gd_ x3 22 fun j1 => (bn_ (fX1_moveVisit (sM σ 6 j1) x3 σ) fun r2 => fX1_followPath_5  n x1 (sM σ 6 j1) (x4 + 1) r2)))) : Option St_) = some res := hF
    refine vv_iload C dX1_followPath_5 3 rfl ?_
    refine vv_bipush (v := 22) C dX1_followPath_7 (by decide) ?_
    refine vv_icmp_ge (tgt := 41) C dX1_followPath_9 (by decide) hF (fun c4 hF => ?_) (fun c4 hF => ?_)
    · cases hF
      exact hr _ _ dX1_followPath_41
    · refine vv_iload_n C dX1_followPath_12 2 rfl ?_
      refine vv_iload_n C dX1_followPath_13 1 rfl ?_
      refine vv_icmp_eq (tgt := 41) C dX1_followPath_14 (by decide) hF (fun c3 hF => ?_) (fun c3 hF => ?_)
      · cases hF
        exact hr _ _ dX1_followPath_41
      · refine vv_aload_n C dX1_followPath_17 0 rfl ?_
        refine vv_get (v := .ref (ad 6)) C (hi_X1_followPath_X1) 27 (wX_g27 cy ad fad _) rfl 1 (by decide) (List.mem_of_getElem? (i := 1) rfl) rfl dX1_followPath_18 ?_
        refine vv_iload_n C dX1_followPath_21 2 rfl ?_
        refine vv_iald C 6 0 (wX_g6 cy ad fad _) (tysW_0 cy) hF dX1_followPath_22 (fun j1 hj1 hF => ?_)
        refine vv_istore (lv' := [(5, .int (sM σ 6 j1)), (0, .ref (ad 27)), (1, .int x1), (3, .int x3), (4, .int x4)]) C dX1_followPath_23 (by decide) rfl ?_
        refine vv_aload_n C dX1_followPath_25 1 rfl ?_
        refine vv_iload C dX1_followPath_26 0 rfl ?_
        refine vv_iload_n C dX1_followPath_28 3 rfl ?_
        refine vv_callVv  (fun r2 => (wX cy ad fad r2)) C eX_ok h0 [.int (sM σ 6 j1), .int x3] [] 2 hF (fun r2 hr2 => kX1_moveVisit l D cy ad fad (sM σ 6 j1) x3 σ r2  hr2) gX1_followPath_X1_moveVisit rfl rfl rfl (by decide +kernel) ⟨by decide, by decide⟩ 27 (wX_g27 cy ad fad _) rfl rfl rfl (Nat.le_of_ble_eq_true rfl) dX1_followPath_29 ⟨by decide, by decide⟩ (fun r2 hqr2 hF => ?_)
        refine vv_iload C dX1_followPath_32 0 rfl ?_
        refine vv_istore_n (lv' := [(3, .int (sM σ 6 j1)), (5, .int (sM σ 6 j1)), (0, .ref (ad 27)), (1, .int x1), (4, .int x4)]) C dX1_followPath_34 (by decide) rfl ?_
        refine vv_iinc (q := 4) (v := x4 + 1) (lv' := [(4, .int (x4 + 1)), (3, .int (sM σ 6 j1)), (5, .int (sM σ 6 j1)), (0, .ref (ad 27)), (1, .int x1)]) C dX1_followPath_35 rfl rfl (by decide) rfl ?_
        refine vv_goto (tgt := 5) C dX1_followPath_38 (by decide) ?_
        refine vv_lv [3, 4, 1, 0] rfl ?_
        exact ih x1 (sM σ 6 j1) (x4 + 1) r2  hF
set_option maxHeartbeats 4000000 in
set_option maxRecDepth 20000 in
theorem kX1_followPath (l : Launch) (D : va_G) (cy : Nat → ClassId) (ad fad : Nat → Nat) (x1 : Int32) (x2 : Int32) (σ : St_) (res : St_)  (hF : fX1_followPath x1 x2 σ = some res) : ct_V l D (tysW cy) eX yX1_followPath wsX1_followPath rmX1_followPath [.ref (ad 27), .int x1, .int x2] (wX cy ad fad σ) (wX cy ad fad res) := by
  refine mt_V (by decide) rfl (Nat.le_of_ble_eq_true rfl) ?_
  intro p e s m args below meth c A Q C h0 hr
  replace C : vv_X p s m args meth c D (tysW cy) A 6 cX1_followPath RX1 wsX1_followPath := C
  replace hF : (fX1_followPath_5  FU_ x1 x2 0 σ : Option St_) = some res := hF
  refine vv_lv [0, 1, 2] (lv' := [(0, .ref (ad 27)), (1, .int x1), (2, .int x2)]) rfl ?_
  refine vv_iload_n C dX1_followPath_0 2 rfl ?_
  refine vv_istore_n (lv' := [(3, .int x2), (0, .ref (ad 27)), (1, .int x1), (2, .int x2)]) C dX1_followPath_1 (by decide) rfl ?_
  refine vv_iconst (v := 0) C dX1_followPath_2 (by decide) ?_
  refine vv_istore (lv' := [(4, .int 0), (3, .int x2), (0, .ref (ad 27)), (1, .int x1), (2, .int x2)]) C dX1_followPath_3 (by decide) rfl ?_
  refine vv_lv [2, 3, 1, 0] rfl ?_
  exact vX1_followPath_5 C h0 hr  FU_ x1 x2 0 σ  hF
/-! X1_planMost -/
abbrev rmX1_planMost : Room := { frames := 5, cells := 0, slots := 0, locals := 116 }
def fX1_planMost_2 : Nat → Int32 → St_ → Option St_
  | 0, _, _ => none
  | n + 1, x1, σ => (if 100 ≤ x1 then some σ else (bn_ (fX1_findPath 20 21 σ) fun r1 => (if r1.1 = 0 then some r1.2 else (bn_ (fX1_followPath 20 21 r1.2) fun r2 => fX1_planMost_2  n (x1 + 1) r2))))
def fX1_planMost (σ : St_) : Option St_ := fX1_planMost_2  FU_ 0 σ
set_option maxHeartbeats 4000000 in
set_option maxRecDepth 20000 in
theorem vX1_planMost_2 {p : Program} {l : Launch} {e : Env} {s : State} {m : MethodId} {args : Array Value} {below : List Frame} {meth : Method} {c : Code} {D : va_G} {A : Nat → Prop} {Q : State → Prop} {cy : Nat → ClassId} {ad fad : Nat → Nat} {res : St_} (C : vv_X p s m args meth c D (tysW cy) A 2 cX1_planMost RX1 wsX1_planMost) (h0 : eX A s) (hr : rt_V p l e rmX1_planMost s m args below meth c D A 2 Q cX1_planMost (wX cy ad fad res)) : ∀ (n : Nat) (x1 : Int32) (σ : St_), fX1_planMost_2  n x1 σ = some res → vv_ p l e rmX1_planMost s m args below meth c D A 2 Q 0 0 (wX cy ad fad σ) [(0, .ref (ad 27)), (1, .int x1)] 2 [] := by
  intro n
  induction n with
  | zero =>
    intro x1 σ hF
    cases (show none = some res from hF)
  | succ n ih =>
    intro x1 σ hF
    replace hF : ((if 100 ≤ x1 then some σ else (bn_ (fX1_findPath 20 21 σ) fun r1 => (if r1.1 = 0 then some r1.2 else (bn_ (fX1_followPath 20 21 r1.2) fun r2 => fX1_planMost_2  n (x1 + 1) r2)))) : Option St_) = some res := hF
    refine vv_iload_n C dX1_planMost_2 1 rfl ?_
    refine vv_bipush (v := 100) C dX1_planMost_3 (by decide) ?_
    refine vv_icmp_ge (tgt := 34) C dX1_planMost_5 (by decide) hF (fun c4 hF => ?_) (fun c4 hF => ?_)
    · cases hF
      exact hr _ _ dX1_planMost_34
    · refine vv_aload_n C dX1_planMost_8 0 rfl ?_
      refine vv_bipush (v := 20) C dX1_planMost_9 (by decide) ?_
      refine vv_bipush (v := 21) C dX1_planMost_11 (by decide) ?_
      refine vv_callVi (fun r1 => r1.1) (fun r1 => (wX cy ad fad r1.2)) C eX_ok h0 [.int 20, .int 21] [] 2 hF (fun r1 hr1 => kX1_findPath l D cy ad fad 20 21 σ r1  hr1) gX1_planMost_X1_findPath rfl rfl rfl (by decide +kernel) ⟨by decide, by decide⟩ 27 (wX_g27 cy ad fad _) rfl rfl rfl (Nat.le_of_ble_eq_true rfl) dX1_planMost_13 ⟨by decide, by decide⟩ (fun r1 hqr1 hF => ?_)
      refine vv_if_ne (tgt := 20) C dX1_planMost_16 (by decide) hF (fun c3 hF => ?_) (fun c3 hF => ?_)
      · refine vv_aload_n C dX1_planMost_20 0 rfl ?_
        refine vv_bipush (v := 20) C dX1_planMost_21 (by decide) ?_
        refine vv_bipush (v := 21) C dX1_planMost_23 (by decide) ?_
        refine vv_callVv  (fun r2 => (wX cy ad fad r2)) C eX_ok h0 [.int 20, .int 21] [] 2 hF (fun r2 hr2 => kX1_followPath l D cy ad fad 20 21 r1.2 r2  hr2) gX1_planMost_X1_followPath rfl rfl rfl (by decide +kernel) ⟨by decide, by decide⟩ 27 (wX_g27 cy ad fad _) rfl rfl rfl (Nat.le_of_ble_eq_true rfl) dX1_planMost_25 ⟨by decide, by decide⟩ (fun r2 hqr2 hF => ?_)
        refine vv_iinc (q := 1) (v := x1 + 1) (lv' := [(1, .int (x1 + 1)), (0, .ref (ad 27))]) C dX1_planMost_28 rfl rfl (by decide) rfl ?_
        refine vv_goto (tgt := 2) C dX1_planMost_31 (by decide) ?_
        refine vv_lv [1, 0] rfl ?_
        exact ih (x1 + 1) r2  hF
      · cases hF
        exact hr _ _ dX1_planMost_19
set_option maxHeartbeats 4000000 in
set_option maxRecDepth 20000 in
theorem kX1_planMost (l : Launch) (D : va_G) (cy : Nat → ClassId) (ad fad : Nat → Nat) (σ : St_) (res : St_)  (hF : fX1_planMost σ = some res) : ct_V l D (tysW cy) eX yX1_planMost wsX1_planMost rmX1_planMost [.ref (ad 27)] (wX cy ad fad σ) (wX cy ad fad res) := by
  refine mt_V (by decide) rfl (Nat.le_of_ble_eq_true rfl) ?_
  intro p e s m args below meth c A Q C h0 hr
  replace C : vv_X p s m args meth c D (tysW cy) A 2 cX1_planMost RX1 wsX1_planMost := C
  replace hF : (fX1_planMost_2  FU_ 0 σ : Option St_) = some res := hF
  refine vv_lv [0] (lv' := [(0, .ref (ad 27))]) rfl ?_
  refine vv_iconst (v := 0) C dX1_planMost_0 (by decide) ?_
  refine vv_istore_n (lv' := [(1, .int 0), (0, .ref (ad 27))]) C dX1_planMost_1 (by decide) rfl ?_
  refine vv_lv [1, 0] rfl ?_
  exact vX1_planMost_2 C h0 hr  FU_ 0 σ  hF
/-! X1_planLeastRow -/
abbrev rmX1_planLeastRow : Room := { frames := 5, cells := 0, slots := 0, locals := 116 }
theorem hi_X1_planLeastRow_X1 : ∀ w ∈ wsX10, w ∈ wsX1_planLeastRow := fun w h => List.mem_cons_of_mem _ (List.mem_append_right _ h)
def fX1_planLeastRow_69 (k2 : Int32 → Int32 → St_ → Option St_) (k15 : Int32 → Int32 → Int32 → St_ → Option St_) (x1 : Int32) (x2 : Int32) (x3 : Int32) (x4 : Int32) (σ : St_) : Option St_ := (bn_ (fX1_setWay x3 x4 0 σ) fun r13 => (bn_ (fX1_setWay x4 x3 0 r13) fun r14 => k15 x1 x2 (x3 + 1) r14))
def fX1_planLeastRow_91 (k2 : Int32 → Int32 → St_ → Option St_) (x1 : Int32) (x2 : Int32) (σ : St_) : Option St_ := k2 x1 (x2 + 1) σ
def fX1_planLeastRow_15 (k2 : Int32 → Int32 → St_ → Option St_) : Nat → Int32 → Int32 → Int32 → St_ → Option St_
  | 0, _, _, _, _ => none
  | n + 1, x1, x2, x3, σ => (if x1 ≤ x3 then fX1_planLeastRow_91 (k2) x1 x2 σ else (if 10 ≤ x3 then fX1_planLeastRow_91 (k2) x1 x2 σ else (bn_ (fX1_placeVisited x2) fun r3 => (gd_ x3 22 fun j4 => (bn_ (fX5_hasBit (sM σ 5 j4) r3) fun r5 => (if r5 = 0 then fX1_planLeastRow_69 (k2) (fX1_planLeastRow_15 k2 n) x1 x2 x3 r3 σ else (bn_ (fX1_findPath r3 x3 σ) fun r6 => (if r6.1 = 0 then fX1_planLeastRow_69 (k2) (fX1_planLeastRow_15 k2 n) x1 x2 x3 r3 r6.2 else (bn_ (fX1_followPath r3 x3 r6.2) fun r7 => (bn_ (fX1_addVisit x3 x2 r7) fun r8 => fX1_planLeastRow_69 (k2) (fX1_planLeastRow_15 k2 n) x1 x2 x3 r3 r8))))))))))
def fX1_planLeastRow_2 : Nat → Int32 → Int32 → St_ → Option St_
  | 0, _, _, _ => none
  | n + 1, x1, x2, σ => (if x1 ≤ x2 then some σ else (if 10 ≤ x2 then some σ else fX1_planLeastRow_15 (fX1_planLeastRow_2  n) FU_ x1 x2 0 σ))
def fX1_planLeastRow (x1 : Int32) (σ : St_) : Option St_ := fX1_planLeastRow_2  FU_ x1 0 σ
set_option maxHeartbeats 4000000 in
set_option maxRecDepth 20000 in
theorem vX1_planLeastRow_69 {p : Program} {l : Launch} {e : Env} {s : State} {m : MethodId} {args : Array Value} {below : List Frame} {meth : Method} {c : Code} {D : va_G} {A : Nat → Prop} {Q : State → Prop} {cy : Nat → ClassId} {ad fad : Nat → Nat} {k2 : Int32 → Int32 → St_ → Option St_} {k15 : Int32 → Int32 → Int32 → St_ → Option St_} {res : St_} (C : vv_X p s m args meth c D (tysW cy) A 5 cX1_planLeastRow RX1 wsX1_planLeastRow) (h0 : eX A s) (hr : rt_V p l e rmX1_planLeastRow s m args below meth c D A 5 Q cX1_planLeastRow (wX cy ad fad res)) (hk2 : ∀ (x1 : Int32) (x2 : Int32) (σ : St_), k2 x1 x2 σ = some res → vv_ p l e rmX1_planLeastRow s m args below meth c D A 5 Q 0 0 (wX cy ad fad σ) [(0, .ref (ad 27)), (1, .int x1), (2, .int x2)] 2 []) (hk15 : ∀ (x1 : Int32) (x2 : Int32) (x3 : Int32) (σ : St_), k15 x1 x2 x3 σ = some res → vv_ p l e rmX1_planLeastRow s m args below meth c D A 5 Q 0 0 (wX cy ad fad σ) [(0, .ref (ad 27)), (1, .int x1), (2, .int x2), (3, .int x3)] 15 []) : ∀ (x1 : Int32) (x2 : Int32) (x3 : Int32) (x4 : Int32) (σ : St_), fX1_planLeastRow_69 k2 k15 x1 x2 x3 x4 σ = some res → vv_ p l e rmX1_planLeastRow s m args below meth c D A 5 Q 0 0 (wX cy ad fad σ) [(0, .ref (ad 27)), (1, .int x1), (2, .int x2), (3, .int x3), (4, .int x4)] 69 [] := by
  intro x1 x2 x3 x4 σ hF
  replace hF : ((bn_ (fX1_setWay x3 x4 0 σ) fun r13 => (bn_ (fX1_setWay x4 x3 0 r13) fun r14 => k15 x1 x2 (x3 + 1) r14)) : Option St_) = some res := hF
  refine vv_aload_n C dX1_planLeastRow_69 0 rfl ?_
  refine vv_iload_n C dX1_planLeastRow_70 3 rfl ?_
  refine vv_iload C dX1_planLeastRow_71 4 rfl ?_
  refine vv_iconst (v := 0) C dX1_planLeastRow_73 (by decide) ?_
  refine vv_callVv  (fun r13 => (wX cy ad fad r13)) C eX_ok h0 [.int x3, .int x4, .int 0] [] 3 hF (fun r13 hr13 => kX1_setWay l D cy ad fad x3 x4 0 σ r13  hr13) gX1_planLeastRow_X1_setWay rfl rfl rfl (by decide +kernel) ⟨by decide, by decide⟩ 27 (wX_g27 cy ad fad _) rfl rfl rfl (Nat.le_of_ble_eq_true rfl) dX1_planLeastRow_74 ⟨by decide, by decide⟩ (fun r13 hqr13 hF => ?_)
  refine vv_aload_n C dX1_planLeastRow_77 0 rfl ?_
  refine vv_iload C dX1_planLeastRow_78 4 rfl ?_
  refine vv_iload_n C dX1_planLeastRow_80 3 rfl ?_
  refine vv_iconst (v := 0) C dX1_planLeastRow_81 (by decide) ?_
  refine vv_callVv  (fun r14 => (wX cy ad fad r14)) C eX_ok h0 [.int x4, .int x3, .int 0] [] 3 hF (fun r14 hr14 => kX1_setWay l D cy ad fad x4 x3 0 r13 r14  hr14) gX1_planLeastRow_X1_setWay rfl rfl rfl (by decide +kernel) ⟨by decide, by decide⟩ 27 (wX_g27 cy ad fad _) rfl rfl rfl (Nat.le_of_ble_eq_true rfl) dX1_planLeastRow_82 ⟨by decide, by decide⟩ (fun r14 hqr14 hF => ?_)
  refine vv_iinc (q := 3) (v := x3 + 1) (lv' := [(3, .int (x3 + 1)), (0, .ref (ad 27)), (1, .int x1), (2, .int x2), (4, .int x4)]) C dX1_planLeastRow_85 rfl rfl (by decide) rfl ?_
  refine vv_goto (tgt := 15) C dX1_planLeastRow_88 (by decide) ?_
  refine vv_lv [1, 2, 3, 0] rfl ?_
  exact hk15 x1 x2 (x3 + 1) r14  hF
set_option maxHeartbeats 4000000 in
set_option maxRecDepth 20000 in
theorem vX1_planLeastRow_91 {p : Program} {l : Launch} {e : Env} {s : State} {m : MethodId} {args : Array Value} {below : List Frame} {meth : Method} {c : Code} {D : va_G} {A : Nat → Prop} {Q : State → Prop} {cy : Nat → ClassId} {ad fad : Nat → Nat} {k2 : Int32 → Int32 → St_ → Option St_} {res : St_} (C : vv_X p s m args meth c D (tysW cy) A 5 cX1_planLeastRow RX1 wsX1_planLeastRow) (h0 : eX A s) (hr : rt_V p l e rmX1_planLeastRow s m args below meth c D A 5 Q cX1_planLeastRow (wX cy ad fad res)) (hk2 : ∀ (x1 : Int32) (x2 : Int32) (σ : St_), k2 x1 x2 σ = some res → vv_ p l e rmX1_planLeastRow s m args below meth c D A 5 Q 0 0 (wX cy ad fad σ) [(0, .ref (ad 27)), (1, .int x1), (2, .int x2)] 2 []) : ∀ (x1 : Int32) (x2 : Int32) (σ : St_), fX1_planLeastRow_91 k2 x1 x2 σ = some res → vv_ p l e rmX1_planLeastRow s m args below meth c D A 5 Q 0 0 (wX cy ad fad σ) [(0, .ref (ad 27)), (1, .int x1), (2, .int x2)] 91 [] := by
  intro x1 x2 σ hF
  replace hF : (k2 x1 (x2 + 1) σ : Option St_) = some res := hF
  refine vv_iinc (q := 2) (v := x2 + 1) (lv' := [(2, .int (x2 + 1)), (0, .ref (ad 27)), (1, .int x1)]) C dX1_planLeastRow_91 rfl rfl (by decide) rfl ?_
  refine vv_goto (tgt := 2) C dX1_planLeastRow_94 (by decide) ?_
  refine vv_lv [1, 2, 0] rfl ?_
  exact hk2 x1 (x2 + 1) σ  hF
set_option maxHeartbeats 4000000 in
set_option maxRecDepth 20000 in
theorem vX1_planLeastRow_15 {p : Program} {l : Launch} {e : Env} {s : State} {m : MethodId} {args : Array Value} {below : List Frame} {meth : Method} {c : Code} {D : va_G} {A : Nat → Prop} {Q : State → Prop} {cy : Nat → ClassId} {ad fad : Nat → Nat} {k2 : Int32 → Int32 → St_ → Option St_} {res : St_} (C : vv_X p s m args meth c D (tysW cy) A 5 cX1_planLeastRow RX1 wsX1_planLeastRow) (h0 : eX A s) (hr : rt_V p l e rmX1_planLeastRow s m args below meth c D A 5 Q cX1_planLeastRow (wX cy ad fad res)) (hk2 : ∀ (x1 : Int32) (x2 : Int32) (σ : St_), k2 x1 x2 σ = some res → vv_ p l e rmX1_planLeastRow s m args below meth c D A 5 Q 0 0 (wX cy ad fad σ) [(0, .ref (ad 27)), (1, .int x1), (2, .int x2)] 2 []) : ∀ (n : Nat) (x1 : Int32) (x2 : Int32) (x3 : Int32) (σ : St_), fX1_planLeastRow_15 k2 n x1 x2 x3 σ = some res → vv_ p l e rmX1_planLeastRow s m args below meth c D A 5 Q 0 0 (wX cy ad fad σ) [(0, .ref (ad 27)), (1, .int x1), (2, .int x2), (3, .int x3)] 15 [] := by
  intro n
  induction n with
  | zero =>
    intro x1 x2 x3 σ hF
    cases (show none = some res from hF)
  | succ n ih =>
    intro x1 x2 x3 σ hF
    replace hF : ((if x1 ≤ x3 then fX1_planLeastRow_91 (k2) x1 x2 σ else (if 10 ≤ x3 then fX1_planLeastRow_91 (k2) x1 x2 σ else (bn_ (fX1_placeVisited x2) fun r3 => (gd_ x3 22 fun j4 => (bn_ (fX5_hasBit (sM σ 5 j4) r3) fun r5 => (if r5 = 0 then fX1_planLeastRow_69 (k2) (fX1_planLeastRow_15 k2 n) x1 x2 x3 r3 σ else (bn_ (fX1_findPath r3 x3 σ) fun r6 => (if r6.1 = 0 then fX1_planLeastRow_69 (k2) (fX1_planLeastRow_15 k2 n) x1 x2 x3 r3 r6.2 else (bn_ (fX1_followPath r3 x3 r6.2) fun r7 => (bn_ (fX1_addVisit x3 x2 r7) fun r8 => fX1_planLeastRow_69 (k2) (fX1_planLeastRow_15 k2 n) x1 x2 x3 r3 r8)))))))))) : Option St_) = some res := hF
    refine vv_iload_n C dX1_planLeastRow_15 3 rfl ?_
    refine vv_iload_n C dX1_planLeastRow_16 1 rfl ?_
    refine vv_icmp_ge (tgt := 91) C dX1_planLeastRow_17 (by decide) hF (fun c12 hF => ?_) (fun c12 hF => ?_)
    · refine vv_lv [0, 1, 2] rfl ?_
      exact vX1_planLeastRow_91 C h0 hr (hk2) x1 x2 σ  hF
    · refine vv_iload_n C dX1_planLeastRow_20 3 rfl ?_
      refine vv_bipush (v := 10) C dX1_planLeastRow_21 (by decide) ?_
      refine vv_icmp_ge (tgt := 91) C dX1_planLeastRow_23 (by decide) hF (fun c11 hF => ?_) (fun c11 hF => ?_)
      · refine vv_lv [0, 1, 2] rfl ?_
        exact vX1_planLeastRow_91 C h0 hr (hk2) x1 x2 σ  hF
      · refine vv_iload_n C dX1_planLeastRow_26 2 rfl ?_
        refine vv_callSi (fun r3 => r3) (fun r3 => (wX cy ad fad σ)) C eX_ok h0 [.int x2] [] 1 hF (fun r3 hr3 => kX1_placeVisited l D (tysW cy) eX_ok (wX cy ad fad σ) x2 r3  hr3) gX1_planLeastRow_X1_placeVisited rfl rfl rfl (by decide +kernel) ⟨by decide, by decide⟩ rfl rfl (Nat.le_of_ble_eq_true rfl) dX1_planLeastRow_27 ⟨by decide, by decide⟩ (fun r3 hqr3 hF => ?_)
        refine vv_istore (lv' := [(4, .int r3), (0, .ref (ad 27)), (1, .int x1), (2, .int x2), (3, .int x3)]) C dX1_planLeastRow_30 (by decide) rfl ?_
        refine vv_aload_n C dX1_planLeastRow_32 1 rfl ?_
        refine vv_get (v := .ref (ad 5)) C (hi_X1_planLeastRow_X1) 27 (wX_g27 cy ad fad _) rfl 0 (by decide) (List.mem_of_getElem? (i := 1) rfl) rfl dX1_planLeastRow_33 ?_
        refine vv_iload_n C dX1_planLeastRow_36 4 rfl ?_
        refine vv_iald C 5 0 (wX_g5 cy ad fad _) (tysW_0 cy) hF dX1_planLeastRow_37 (fun j4 hj4 hF => ?_)
        refine vv_iload C dX1_planLeastRow_38 0 rfl ?_
        refine vv_callNi (fun r5 => r5) (fun r5 => (wX cy ad fad σ)) C eX_ok h0 [.int (sM σ 5 j4), .int r3] [] 2 hF (fun r5 hr5 => kX5_hasBit l D (tysW cy) eX_ok (wX cy ad fad σ) (sM σ 5 j4) r3 r5  hr5) gX1_planLeastRow_X5_hasBit_n59 (eX_nX1_59 h0) (List.mem_of_getElem? (i := 7) rfl) (List.mem_of_getElem? (i := 6) rfl) rfl rfl rfl (by decide +kernel) ⟨by decide, by decide⟩ rfl rfl (Nat.le_of_ble_eq_true rfl) dX1_planLeastRow_40 ⟨by decide, by decide⟩ (fun r5 hqr5 hF => ?_)
        refine vv_if_eq (tgt := 69) C dX1_planLeastRow_43 (by decide) hF (fun c10 hF => ?_) (fun c10 hF => ?_)
        · refine vv_lv [1, 2, 3, 4, 0] rfl ?_
          exact vX1_planLeastRow_69 C h0 hr (hk2) (ih) x1 x2 x3 r3 σ  hF
        · refine vv_aload_n C dX1_planLeastRow_46 1 rfl ?_
          refine vv_iload C dX1_planLeastRow_47 0 rfl ?_
          refine vv_iload_n C dX1_planLeastRow_49 4 rfl ?_
          refine vv_callVi (fun r6 => r6.1) (fun r6 => (wX cy ad fad r6.2)) C eX_ok h0 [.int r3, .int x3] [] 2 hF (fun r6 hr6 => kX1_findPath l D cy ad fad r3 x3 σ r6  hr6) gX1_planLeastRow_X1_findPath rfl rfl rfl (by decide +kernel) ⟨by decide, by decide⟩ 27 (wX_g27 cy ad fad _) rfl rfl rfl (Nat.le_of_ble_eq_true rfl) dX1_planLeastRow_50 ⟨by decide, by decide⟩ (fun r6 hqr6 hF => ?_)
          refine vv_if_eq (tgt := 69) C dX1_planLeastRow_53 (by decide) hF (fun c9 hF => ?_) (fun c9 hF => ?_)
          · refine vv_lv [1, 2, 3, 4, 0] rfl ?_
            exact vX1_planLeastRow_69 C h0 hr (hk2) (ih) x1 x2 x3 r3 r6.2  hF
          · refine vv_aload_n C dX1_planLeastRow_56 1 rfl ?_
            refine vv_iload C dX1_planLeastRow_57 0 rfl ?_
            refine vv_iload_n C dX1_planLeastRow_59 4 rfl ?_
            refine vv_callVv  (fun r7 => (wX cy ad fad r7)) C eX_ok h0 [.int r3, .int x3] [] 2 hF (fun r7 hr7 => kX1_followPath l D cy ad fad r3 x3 r6.2 r7  hr7) gX1_planLeastRow_X1_followPath rfl rfl rfl (by decide +kernel) ⟨by decide, by decide⟩ 27 (wX_g27 cy ad fad _) rfl rfl rfl (Nat.le_of_ble_eq_true rfl) dX1_planLeastRow_60 ⟨by decide, by decide⟩ (fun r7 hqr7 hF => ?_)
            refine vv_aload_n C dX1_planLeastRow_63 1 rfl ?_
            refine vv_iload_n C dX1_planLeastRow_64 4 rfl ?_
            refine vv_iload_n C dX1_planLeastRow_65 3 rfl ?_
            refine vv_callVv  (fun r8 => (wX cy ad fad r8)) C eX_ok h0 [.int x3, .int x2] [] 2 hF (fun r8 hr8 => kX1_addVisit l D cy ad fad x3 x2 r7 r8  hr8) gX1_planLeastRow_X1_addVisit rfl rfl rfl (by decide +kernel) ⟨by decide, by decide⟩ 27 (wX_g27 cy ad fad _) rfl rfl rfl (Nat.le_of_ble_eq_true rfl) dX1_planLeastRow_66 ⟨by decide, by decide⟩ (fun r8 hqr8 hF => ?_)
            refine vv_lv [1, 2, 3, 4, 0] rfl ?_
            exact vX1_planLeastRow_69 C h0 hr (hk2) (ih) x1 x2 x3 r3 r8  hF
set_option maxHeartbeats 4000000 in
set_option maxRecDepth 20000 in
theorem vX1_planLeastRow_2 {p : Program} {l : Launch} {e : Env} {s : State} {m : MethodId} {args : Array Value} {below : List Frame} {meth : Method} {c : Code} {D : va_G} {A : Nat → Prop} {Q : State → Prop} {cy : Nat → ClassId} {ad fad : Nat → Nat} {res : St_} (C : vv_X p s m args meth c D (tysW cy) A 5 cX1_planLeastRow RX1 wsX1_planLeastRow) (h0 : eX A s) (hr : rt_V p l e rmX1_planLeastRow s m args below meth c D A 5 Q cX1_planLeastRow (wX cy ad fad res)) : ∀ (n : Nat) (x1 : Int32) (x2 : Int32) (σ : St_), fX1_planLeastRow_2  n x1 x2 σ = some res → vv_ p l e rmX1_planLeastRow s m args below meth c D A 5 Q 0 0 (wX cy ad fad σ) [(0, .ref (ad 27)), (1, .int x1), (2, .int x2)] 2 [] := by
  intro n
  induction n with
  | zero =>
    intro x1 x2 σ hF
    cases (show none = some res from hF)
  | succ n ih =>
    intro x1 x2 σ hF
    replace hF : ((if x1 ≤ x2 then some σ else (if 10 ≤ x2 then some σ else fX1_planLeastRow_15 (fX1_planLeastRow_2  n) FU_ x1 x2 0 σ)) : Option St_) = some res := hF
    refine vv_iload_n C dX1_planLeastRow_2 2 rfl ?_
    refine vv_iload_n C dX1_planLeastRow_3 1 rfl ?_
    refine vv_icmp_ge (tgt := 97) C dX1_planLeastRow_4 (by decide) hF (fun c2 hF => ?_) (fun c2 hF => ?_)
    · cases hF
      exact hr _ _ dX1_planLeastRow_97
    · refine vv_iload_n C dX1_planLeastRow_7 2 rfl ?_
      refine vv_bipush (v := 10) C dX1_planLeastRow_8 (by decide) ?_
      refine vv_icmp_ge (tgt := 97) C dX1_planLeastRow_10 (by decide) hF (fun c1 hF => ?_) (fun c1 hF => ?_)
      · cases hF
        exact hr _ _ dX1_planLeastRow_97
      · refine vv_iconst (v := 0) C dX1_planLeastRow_13 (by decide) ?_
        refine vv_istore_n (lv' := [(3, .int 0), (0, .ref (ad 27)), (1, .int x1), (2, .int x2)]) C dX1_planLeastRow_14 (by decide) rfl ?_
        refine vv_lv [1, 2, 3, 0] rfl ?_
        exact vX1_planLeastRow_15 C h0 hr (ih) FU_ x1 x2 0 σ  hF
set_option maxHeartbeats 4000000 in
set_option maxRecDepth 20000 in
theorem kX1_planLeastRow (l : Launch) (D : va_G) (cy : Nat → ClassId) (ad fad : Nat → Nat) (x1 : Int32) (σ : St_) (res : St_)  (hF : fX1_planLeastRow x1 σ = some res) : ct_V l D (tysW cy) eX yX1_planLeastRow wsX1_planLeastRow rmX1_planLeastRow [.ref (ad 27), .int x1] (wX cy ad fad σ) (wX cy ad fad res) := by
  refine mt_V (by decide) rfl (Nat.le_of_ble_eq_true rfl) ?_
  intro p e s m args below meth c A Q C h0 hr
  replace C : vv_X p s m args meth c D (tysW cy) A 5 cX1_planLeastRow RX1 wsX1_planLeastRow := C
  replace hF : (fX1_planLeastRow_2  FU_ x1 0 σ : Option St_) = some res := hF
  refine vv_lv [0, 1] (lv' := [(0, .ref (ad 27)), (1, .int x1)]) rfl ?_
  refine vv_iconst (v := 0) C dX1_planLeastRow_0 (by decide) ?_
  refine vv_istore_n (lv' := [(2, .int 0), (0, .ref (ad 27)), (1, .int x1)]) C dX1_planLeastRow_1 (by decide) rfl ?_
  refine vv_lv [1, 2, 0] rfl ?_
  exact vX1_planLeastRow_2 C h0 hr  FU_ x1 0 σ  hF
