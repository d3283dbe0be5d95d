/-! X6_isVisit -/
abbrev rmX6_isVisit : Room := { frames := 0, cells := 0, slots := 0, locals := 0 }
theorem hi_X6_isVisit_X6 : ∀ w ∈ wsX60, w ∈ wsX6_isVisit := fun w h => List.mem_cons_of_mem _ (List.mem_append_right _ h)
def fX6_isVisit (x1 : Int32) (x2 : Int32) (σ : St_) : Option Int32 := (if (sS σ 4) = 0 then some 0 else (gd_ ((10 * x1) + x2) 100 fun j1 => (if (sM σ 17 j1) = 0 then some 0 else some 1)))
set_option maxHeartbeats 4000000 in
set_option maxRecDepth 20000 in
theorem kX6_isVisit (l : Launch) (D : va_G) (cy : Nat → ClassId) (ad : Nat → Nat) (x1 : Int32) (x2 : Int32) (σ : St_) (res : Int32)  (hF : fX6_isVisit x1 x2 σ = some res) : ct_I l D (tysW cy) en_T yX6_isVisit wsX6_isVisit rmX6_isVisit [.ref (ad 29), .int x1, .int x2] (wM cy ad σ) res (wM cy ad σ) := by
  refine mt_I (by decide) rfl (Nat.le_of_ble_eq_true rfl) ?_
  intro p e s m args below meth c A Q C h0 hr
  replace C : vv_X p s m args meth c D (tysW cy) A 3 cX6_isVisit RX6 wsX6_isVisit := C
  replace hF : ((if (sS σ 4) = 0 then some 0 else (gd_ ((10 * x1) + x2) 100 fun j1 => (if (sM σ 17 j1) = 0 then some 0 else some 1))) : Option Int32) = some res := hF
  refine vv_lv [0, 1, 2] (lv' := [(0, .ref (ad 29)), (1, .int x1), (2, .int x2)]) rfl ?_
  refine vv_aload_n C dX6_isVisit_0 0 rfl ?_
  refine vv_get (v := .int (sS σ 4)) C (hi_X6_isVisit_X6) 25 (wM_g29 cy ad _) rfl 4 (by decide) (List.mem_of_getElem? (i := 1) rfl) rfl dX6_isVisit_1 ?_
  refine vv_if_eq (tgt := 25) C dX6_isVisit_4 (by decide) hF (fun c3 hF => ?_) (fun c3 hF => ?_)
  · refine vv_iconst (v := 0) C dX6_isVisit_25 (by decide) ?_
    cases hF
    exact hr _ _ dX6_isVisit_26 nb_Z0
  · refine vv_aload_n C dX6_isVisit_7 0 rfl ?_
    refine vv_get (v := .ref (ad 17)) C (hi_X6_isVisit_X6) 25 (wM_g29 cy ad _) rfl 17 (by decide) (List.mem_of_getElem? (i := 2) rfl) rfl dX6_isVisit_8 ?_
    refine vv_bipush (v := 10) C dX6_isVisit_11 (by decide) ?_
    refine vv_iload_n C dX6_isVisit_13 1 rfl ?_
    refine vv_imul C dX6_isVisit_14 ?_
    refine vv_iload_n C dX6_isVisit_15 2 rfl ?_
    refine vv_iadd C dX6_isVisit_16 ?_
    refine vv_zald C 13 1 (wM_g17 cy ad _) (tysW_1 cy) hF dX6_isVisit_17 (fun j1 hj1 hF => ?_)
    refine vv_if_eq (tgt := 25) C dX6_isVisit_18 (by decide) hF (fun c2 hF => ?_) (fun c2 hF => ?_)
    · refine vv_iconst (v := 0) C dX6_isVisit_25 (by decide) ?_
      cases hF
      exact hr _ _ dX6_isVisit_26 nb_Z0
    · refine vv_iconst (v := 1) C dX6_isVisit_21 (by decide) ?_
      refine vv_goto (tgt := 26) C dX6_isVisit_22 (by decide) ?_
      cases hF
      exact hr _ _ dX6_isVisit_26 nb_Z1
/-! X6_visitorsOf -/
abbrev rmX6_visitorsOf : Room := { frames := 1, cells := 0, slots := 0, locals := 22 }
theorem hi_X6_visitorsOf_X6 : ∀ w ∈ wsX60, w ∈ wsX6_visitorsOf := fun w h => List.mem_cons_of_mem _ (List.mem_append_right _ h)
def fX6_visitorsOf_27 (σ : St_) (k4 : Int32 → Int32 → Int32 → Option Int32) (x1 : Int32) (x3 : Int32) (t0 : Int32) (t1 : Int32) : Option Int32 := k4 x1 (t1 + t0) (x3 + 1)
def fX6_visitorsOf_4 (σ : St_) : Nat → Int32 → Int32 → Int32 → Option Int32
  | 0, _, _, _ => none
  | n + 1, x1, x2, x3 => (if (sS σ 2) ≤ x3 then some x2 else (bn_ (fX6_isVisit x3 x1 σ) fun r1 => (if r1 = 0 then fX6_visitorsOf_27 σ (fX6_visitorsOf_4 σ  n) x1 x3 0 x2 else fX6_visitorsOf_27 σ (fX6_visitorsOf_4 σ  n) x1 x3 1 x2)))
def fX6_visitorsOf (x1 : Int32) (σ : St_) : Option Int32 := fX6_visitorsOf_4 σ  FU_ x1 0 0
set_option maxHeartbeats 4000000 in
set_option maxRecDepth 20000 in
theorem vX6_visitorsOf_27 {p : Program} {l : Launch} {e : Env} {s : State} {m : MethodId} {args : Array Value} {below : List Frame} {meth : Method} {c : Code} {D : va_G} {A : Nat → Prop} {Q : State → Prop} {cy : Nat → ClassId} {ad : Nat → Nat} {k4 : Int32 → Int32 → Int32 → Option Int32} {σ : St_} {res : Int32} (C : vv_X p s m args meth c D (tysW cy) A 4 cX6_visitorsOf RX6 wsX6_visitorsOf) (h0 : en_T A s) (hr : rt_I p l e rmX6_visitorsOf s m args below meth c D A 4 Q cX6_visitorsOf .int (wM cy ad σ) res) (hk4 : ∀ (x1 : Int32) (x2 : Int32) (x3 : Int32), k4 x1 x2 x3 = some res → vv_ p l e rmX6_visitorsOf s m args below meth c D A 4 Q 0 0 (wM cy ad σ) [(0, .ref (ad 29)), (1, .int x1), (2, .int x2), (3, .int x3)] 4 []) : ∀ (x1 : Int32) (x3 : Int32) (t0 : Int32) (t1 : Int32), fX6_visitorsOf_27 σ k4 x1 x3 t0 t1 = some res → vv_ p l e rmX6_visitorsOf s m args below meth c D A 4 Q 0 0 (wM cy ad σ) [(0, .ref (ad 29)), (1, .int x1), (3, .int x3)] 27 [.int t0, .int t1] := by
  intro x1 x3 t0 t1 hF
  replace hF : (k4 x1 (t1 + t0) (x3 + 1) : Option Int32) = some res := hF
  refine vv_iadd C dX6_visitorsOf_27 ?_
  refine vv_istore_n (lv' := [(2, .int (t1 + t0)), (0, .ref (ad 29)), (1, .int x1), (3, .int x3)]) C dX6_visitorsOf_28 (by decide) rfl ?_
  refine vv_iinc (q := 3) (v := x3 + 1) (lv' := [(3, .int (x3 + 1)), (2, .int (t1 + t0)), (0, .ref (ad 29)), (1, .int x1)]) C dX6_visitorsOf_29 rfl rfl (by decide) rfl ?_
  refine vv_goto (tgt := 4) C dX6_visitorsOf_32 (by decide) ?_
  refine vv_lv [2, 3, 1, 0] rfl ?_
  exact hk4 x1 (t1 + t0) (x3 + 1)  hF
set_option maxHeartbeats 4000000 in
set_option maxRecDepth 20000 in
theorem vX6_visitorsOf_4 {p : Program} {l : Launch} {e : Env} {s : State} {m : MethodId} {args : Array Value} {below : List Frame} {meth : Method} {c : Code} {D : va_G} {A : Nat → Prop} {Q : State → Prop} {cy : Nat → ClassId} {ad : Nat → Nat} {σ : St_} {res : Int32} (C : vv_X p s m args meth c D (tysW cy) A 4 cX6_visitorsOf RX6 wsX6_visitorsOf) (h0 : en_T A s) (hr : rt_I p l e rmX6_visitorsOf s m args below meth c D A 4 Q cX6_visitorsOf .int (wM cy ad σ) res) : ∀ (n : Nat) (x1 : Int32) (x2 : Int32) (x3 : Int32), fX6_visitorsOf_4 σ  n x1 x2 x3 = some res → vv_ p l e rmX6_visitorsOf s m args below meth c D A 4 Q 0 0 (wM cy ad σ) [(0, .ref (ad 29)), (1, .int x1), (2, .int x2), (3, .int x3)] 4 [] := by
  intro n
  induction n with
  | zero =>
    intro x1 x2 x3 hF
    cases (show none = some res from hF)
  | succ n ih =>
    intro x1 x2 x3 hF
    replace hF : ((if (sS σ 2) ≤ x3 then some x2 else (bn_ (fX6_isVisit x3 x1 σ) fun r1 => (if r1 = 0 then fX6_visitorsOf_27 σ (fX6_visitorsOf_4 σ  n) x1 x3 0 x2 else fX6_visitorsOf_27 σ (fX6_visitorsOf_4 σ  n) x1 x3 1 x2))) : Option Int32) = some res := hF
    refine vv_iload_n C dX6_visitorsOf_4 3 rfl ?_
    refine vv_aload_n C dX6_visitorsOf_5 0 rfl ?_
    refine vv_get (v := .int (sS σ 2)) C (hi_X6_visitorsOf_X6) 25 (wM_g29 cy ad _) rfl 2 (by decide) (List.mem_of_getElem? (i := 1) rfl) rfl dX6_visitorsOf_6 ?_
    refine vv_icmp_ge (tgt := 35) C dX6_visitorsOf_9 (by decide) hF (fun c3 hF => ?_) (fun c3 hF => ?_)
    · refine vv_iload_n C dX6_visitorsOf_35 2 rfl ?_
      cases hF
      exact hr _ _ dX6_visitorsOf_36 rfl
    · refine vv_iload_n C dX6_visitorsOf_12 2 rfl ?_
      refine vv_aload_n C dX6_visitorsOf_13 0 rfl ?_
      refine vv_iload_n C dX6_visitorsOf_14 3 rfl ?_
      refine vv_iload_n C dX6_visitorsOf_15 1 rfl ?_
      refine vv_callVi (fun r1 => r1) (fun r1 => (wM cy ad σ)) C en_ok h0 [.int x3, .int x1] [.int x2] 2 hF (fun r1 hr1 => kX6_isVisit l D cy ad x3 x1 σ r1  hr1) gX6_visitorsOf_X6_isVisit rfl rfl rfl (by decide +kernel) ⟨by decide, by decide⟩ 25 (wM_g29 cy ad _) rfl rfl rfl (Nat.le_of_ble_eq_true rfl) dX6_visitorsOf_16 ⟨by decide, by decide⟩ (fun r1 hqr1 hF => ?_)
      refine vv_if_eq (tgt := 26) C dX6_visitorsOf_19 (by decide) hF (fun c2 hF => ?_) (fun c2 hF => ?_)
      · refine vv_iconst (v := 0) C dX6_visitorsOf_26 (by decide) ?_
        refine vv_lv [0, 1, 3] rfl ?_
        exact vX6_visitorsOf_27 C h0 hr (ih) x1 x3 0 x2  hF
      · refine vv_iconst (v := 1) C dX6_visitorsOf_22 (by decide) ?_
        refine vv_goto (tgt := 27) C dX6_visitorsOf_23 (by decide) ?_
        refine vv_lv [0, 1, 3] rfl ?_
        exact vX6_visitorsOf_27 C h0 hr (ih) x1 x3 1 x2  hF
set_option maxHeartbeats 4000000 in
set_option maxRecDepth 20000 in
theorem kX6_visitorsOf (l : Launch) (D : va_G) (cy : Nat → ClassId) (ad : Nat → Nat) (x1 : Int32) (σ : St_) (res : Int32)  (hF : fX6_visitorsOf x1 σ = some res) : ct_I l D (tysW cy) en_T yX6_visitorsOf wsX6_visitorsOf rmX6_visitorsOf [.ref (ad 29), .int x1] (wM cy ad σ) res (wM cy ad σ) := by
  refine mt_I (by decide) rfl (Nat.le_of_ble_eq_true rfl) ?_
  intro p e s m args below meth c A Q C h0 hr
  replace C : vv_X p s m args meth c D (tysW cy) A 4 cX6_visitorsOf RX6 wsX6_visitorsOf := C
  replace hF : (fX6_visitorsOf_4 σ  FU_ x1 0 0 : Option Int32) = some res := hF
  refine vv_lv [0, 1] (lv' := [(0, .ref (ad 29)), (1, .int x1)]) rfl ?_
  refine vv_iconst (v := 0) C dX6_visitorsOf_0 (by decide) ?_
  refine vv_istore_n (lv' := [(2, .int 0), (0, .ref (ad 29)), (1, .int x1)]) C dX6_visitorsOf_1 (by decide) rfl ?_
  refine vv_iconst (v := 0) C dX6_visitorsOf_2 (by decide) ?_
  refine vv_istore_n (lv' := [(3, .int 0), (2, .int 0), (0, .ref (ad 29)), (1, .int x1)]) C dX6_visitorsOf_3 (by decide) rfl ?_
  refine vv_lv [2, 3, 1, 0] rfl ?_
  exact vX6_visitorsOf_4 C h0 hr  FU_ x1 0 0  hF
/-! X6_visitor -/
abbrev rmX6_visitor : Room := { frames := 2, cells := 0, slots := 0, locals := 43 }
theorem hi_X6_visitor_X6 : ∀ w ∈ wsX60, w ∈ wsX6_visitor := fun w h => List.mem_cons_of_mem _ (List.mem_append_right _ h)
def fX6_visitor_52 (σ : St_) (k19 : Int32 → Int32 → Int32 → Int32 → Option Int32) (x1 : Int32) (x2 : Int32) (x3 : Int32) (x4 : Int32) : Option Int32 := k19 x1 x2 x3 (x4 + 1)
def fX6_visitor_19 (σ : St_) : Nat → Int32 → Int32 → Int32 → Int32 → Option Int32
  | 0, _, _, _, _ => none
  | n + 1, x1, x2, x3, x4 => (if (sS σ 2) ≤ x4 then some (-1) else (bn_ (fX6_isVisit x4 x1 σ) fun r4 => (if r4 = 0 then fX6_visitor_52 σ (fX6_visitor_19 σ  n) x1 x2 x3 x4 else (if x3 = x2 then some x4 else fX6_visitor_52 σ (fX6_visitor_19 σ  n) x1 x2 (x3 + 1) x4))))
def fX6_visitor (x1 : Int32) (x2 : Int32) (σ : St_) : Option Int32 := (bn_ (fX6_isFarm x1 σ) fun r1 => (if r1 = 0 then some (-1) else (if 0 ≤ x2 then fX6_visitor_19 σ  FU_ x1 x2 0 0 else some (-1))))
set_option maxHeartbeats 4000000 in
set_option maxRecDepth 20000 in
theorem vX6_visitor_52 {p : Program} {l : Launch} {e : Env} {s : State} {m : MethodId} {args : Array Value} {below : List Frame} {meth : Method} {c : Code} {D : va_G} {A : Nat → Prop} {Q : State → Prop} {cy : Nat → ClassId} {ad : Nat → Nat} {k19 : Int32 → Int32 → Int32 → Int32 → Option Int32} {σ : St_} {res : Int32} (C : vv_X p s m args meth c D (tysW cy) A 5 cX6_visitor RX6 wsX6_visitor) (h0 : en_T A s) (hr : rt_I p l e rmX6_visitor s m args below meth c D A 5 Q cX6_visitor .int (wM cy ad σ) res) (hk19 : ∀ (x1 : Int32) (x2 : Int32) (x3 : Int32) (x4 : Int32), k19 x1 x2 x3 x4 = some res → vv_ p l e rmX6_visitor s m args below meth c D A 5 Q 0 0 (wM cy ad σ) [(0, .ref (ad 29)), (1, .int x1), (2, .int x2), (3, .int x3), (4, .int x4)] 19 []) : ∀ (x1 : Int32) (x2 : Int32) (x3 : Int32) (x4 : Int32), fX6_visitor_52 σ k19 x1 x2 x3 x4 = some res → vv_ p l e rmX6_visitor s m args below meth c D A 5 Q 0 0 (wM cy ad σ) [(0, .ref (ad 29)), (1, .int x1), (2, .int x2), (3, .int x3), (4, .int x4)] 52 [] := by
  intro x1 x2 x3 x4 hF
  replace hF : (k19 x1 x2 x3 (x4 + 1) : Option Int32) = some res := hF
  refine vv_iinc (q := 4) (v := x4 + 1) (lv' := [(4, .int (x4 + 1)), (0, .ref (ad 29)), (1, .int x1), (2, .int x2), (3, .int x3)]) C dX6_visitor_52 rfl rfl (by decide) rfl ?_
  refine vv_goto (tgt := 19) C dX6_visitor_55 (by decide) ?_
  refine vv_lv [1, 2, 3, 4, 0] rfl ?_
  exact hk19 x1 x2 x3 (x4 + 1)  hF
set_option maxHeartbeats 4000000 in
set_option maxRecDepth 20000 in
theorem vX6_visitor_19 {p : Program} {l : Launch} {e : Env} {s : State} {m : MethodId} {args : Array Value} {below : List Frame} {meth : Method} {c : Code} {D : va_G} {A : Nat → Prop} {Q : State → Prop} {cy : Nat → ClassId} {ad : Nat → Nat} {σ : St_} {res : Int32} (C : vv_X p s m args meth c D (tysW cy) A 5 cX6_visitor RX6 wsX6_visitor) (h0 : en_T A s) (hr : rt_I p l e rmX6_visitor s m args below meth c D A 5 Q cX6_visitor .int (wM cy ad σ) res) : ∀ (n : Nat) (x1 : Int32) (x2 : Int32) (x3 : Int32) (x4 : Int32), fX6_visitor_19 σ  n x1 x2 x3 x4 = some res → vv_ p l e rmX6_visitor s m args below meth c D A 5 Q 0 0 (wM cy ad σ) [(0, .ref (ad 29)), (1, .int x1), (2, .int x2), (3, .int x3), (4, .int x4)] 19 [] := by
  intro n
  induction n with
  | zero =>
    intro x1 x2 x3 x4 hF
    cases (show none = some res from hF)
  | succ n ih =>
    intro x1 x2 x3 x4 hF
    replace hF : ((if (sS σ 2) ≤ x4 then some (-1) else (bn_ (fX6_isVisit x4 x1 σ) fun r4 => (if r4 = 0 then fX6_visitor_52 σ (fX6_visitor_19 σ  n) x1 x2 x3 x4 else (if x3 = x2 then some x4 else fX6_visitor_52 σ (fX6_visitor_19 σ  n) x1 x2 (x3 + 1) x4)))) : Option Int32) = some res := hF
    refine vv_iload C dX6_visitor_19 4 rfl ?_
    refine vv_aload_n C dX6_visitor_21 0 rfl ?_
    refine vv_get (v := .int (sS σ 2)) C (hi_X6_visitor_X6) 25 (wM_g29 cy ad _) rfl 2 (by decide) (List.mem_of_getElem? (i := 1) rfl) rfl dX6_visitor_22 ?_
    refine vv_icmp_ge (tgt := 58) C dX6_visitor_25 (by decide) hF (fun c7 hF => ?_) (fun c7 hF => ?_)
    · refine vv_iconst (v := (-1)) C dX6_visitor_58 (by decide) ?_
      cases hF
      exact hr _ _ dX6_visitor_59 rfl
    · refine vv_aload_n C dX6_visitor_28 0 rfl ?_
      refine vv_iload C dX6_visitor_29 4 rfl ?_
      refine vv_iload_n C dX6_visitor_31 1 rfl ?_
      refine vv_callVi (fun r4 => r4) (fun r4 => (wM cy ad σ)) C en_ok h0 [.int x4, .int x1] [] 2 hF (fun r4 hr4 => kX6_isVisit l D cy ad x4 x1 σ r4  hr4) gX6_visitor_X6_isVisit rfl rfl rfl (by decide +kernel) ⟨by decide, by decide⟩ 25 (wM_g29 cy ad _) rfl rfl rfl (Nat.le_of_ble_eq_true rfl) dX6_visitor_32 ⟨by decide, by decide⟩ (fun r4 hqr4 hF => ?_)
      refine vv_if_ne (tgt := 41) C dX6_visitor_35 (by decide) hF (fun c6 hF => ?_) (fun c6 hF => ?_)
      · refine vv_iload_n C dX6_visitor_41 3 rfl ?_
        refine vv_iload_n C dX6_visitor_42 2 rfl ?_
        refine vv_icmp_ne (tgt := 49) C dX6_visitor_43 (by decide) hF (fun c5 hF => ?_) (fun c5 hF => ?_)
        · refine vv_iinc (q := 3) (v := x3 + 1) (lv' := [(3, .int (x3 + 1)), (0, .ref (ad 29)), (1, .int x1), (2, .int x2), (4, .int x4)]) C dX6_visitor_49 rfl rfl (by decide) rfl ?_
          refine vv_lv [1, 2, 3, 0, 4] rfl ?_
          exact vX6_visitor_52 C h0 hr (ih) x1 x2 (x3 + 1) x4  hF
        · refine vv_iload C dX6_visitor_46 4 rfl ?_
          cases hF
          exact hr _ _ dX6_visitor_48 rfl
      · refine vv_goto (tgt := 52) C dX6_visitor_38 (by decide) ?_
        refine vv_lv [0, 1, 2, 3, 4] rfl ?_
        exact vX6_visitor_52 C h0 hr (ih) x1 x2 x3 x4  hF
set_option maxHeartbeats 4000000 in
set_option maxRecDepth 20000 in
theorem kX6_visitor (l : Launch) (D : va_G) (cy : Nat → ClassId) (ad : Nat → Nat) (x1 : Int32) (x2 : Int32) (σ : St_) (res : Int32)  (hF : fX6_visitor x1 x2 σ = some res) : ct_I l D (tysW cy) en_T yX6_visitor wsX6_visitor rmX6_visitor [.ref (ad 29), .int x1, .int x2] (wM cy ad σ) res (wM cy ad σ) := by
  refine mt_I (by decide) rfl (Nat.le_of_ble_eq_true rfl) ?_
  intro p e s m args below meth c A Q C h0 hr
  replace C : vv_X p s m args meth c D (tysW cy) A 5 cX6_visitor RX6 wsX6_visitor := C
  replace hF : ((bn_ (fX6_isFarm x1 σ) fun r1 => (if r1 = 0 then some (-1) else (if 0 ≤ x2 then fX6_visitor_19 σ  FU_ x1 x2 0 0 else some (-1)))) : Option Int32) = some res := hF
  refine vv_lv [0, 1, 2] (lv' := [(0, .ref (ad 29)), (1, .int x1), (2, .int x2)]) rfl ?_
  refine vv_aload_n C dX6_visitor_0 0 rfl ?_
  refine vv_iload_n C dX6_visitor_1 1 rfl ?_
  refine vv_callVi (fun r1 => r1) (fun r1 => (wM cy ad σ)) C en_ok h0 [.int x1] [] 1 hF (fun r1 hr1 => kX6_isFarm l D cy ad x1 σ r1  hr1) gX6_visitor_X6_isFarm rfl rfl rfl (by decide +kernel) ⟨by decide, by decide⟩ 25 (wM_g29 cy ad _) rfl rfl rfl (Nat.le_of_ble_eq_true rfl) dX6_visitor_2 ⟨by decide, by decide⟩ (fun r1 hqr1 hF => ?_)
  refine vv_if_eq (tgt := 12) C dX6_visitor_5 (by decide) hF (fun c3 hF => ?_) (fun c3 hF => ?_)
  · refine vv_iconst (v := (-1)) C dX6_visitor_12 (by decide) ?_
    cases hF
    exact hr _ _ dX6_visitor_13 rfl
  · refine vv_iload_n C dX6_visitor_8 2 rfl ?_
    refine vv_if_ge (tgt := 14) C dX6_visitor_9 (by decide) hF (fun c2 hF => ?_) (fun c2 hF => ?_)
    · refine vv_iconst (v := 0) C dX6_visitor_14 (by decide) ?_
      refine vv_istore_n (lv' := [(3, .int 0), (0, .ref (ad 29)), (1, .int x1), (2, .int x2)]) C dX6_visitor_15 (by decide) rfl ?_
      refine vv_iconst (v := 0) C dX6_visitor_16 (by decide) ?_
      refine vv_istore (lv' := [(4, .int 0), (3, .int 0), (0, .ref (ad 29)), (1, .int x1), (2, .int x2)]) C dX6_visitor_17 (by decide) rfl ?_
      refine vv_lv [2, 3, 4, 1, 0] rfl ?_
      exact vX6_visitor_19 C h0 hr  FU_ x1 x2 0 0  hF
    · refine vv_iconst (v := (-1)) C dX6_visitor_12 (by decide) ?_
      cases hF
      exact hr _ _ dX6_visitor_13 rfl
/-! X6_tells -/
abbrev rmX6_tells : Room := { frames := 2, cells := 0, slots := 0, locals := 43 }
theorem hi_X6_tells_X6 : ∀ w ∈ wsX60, w ∈ wsX6_tells := fun w h => List.mem_cons_of_mem _ (List.mem_append_right _ h)
def fX6_tells_83 (t0 : Int32) (t1 : Int32) (σ : St_) : Option (Int32 × St_) := (gd_ t1 100 fun j12 => some (1, uM σ 19 j12 t0))
def fX6_tells (x1 : Int32) (x2 : Int32) (x3 : Int32) (x4 : Int32) (σ : St_) : Option (Int32 × St_) := (bn_ (fX6_isFarm x1 σ) fun r1 => (if r1 = 0 then some (0, σ) else (bn_ (fX6_isFarm x2 σ) fun r2 => (if r2 = 0 then some (0, σ) else (bn_ (fX6_isVisit x1 x2 σ) fun r3 => (if r3 = 0 then some (0, σ) else (bn_ (fX6_lies x3 0 7) fun r4 => (if r4 = 0 then some (0, σ) else (if x4 = 0 then (gd_ ((10 * x1) + x2) 100 fun j5 => fX6_tells_83  ((sM σ 19 j5) &&& ((1 <<< (x3 &&& 31)) ^^^ (-1))) ((10 * x1) + x2) σ) else (gd_ ((10 * x1) + x2) 100 fun j6 => fX6_tells_83  ((sM σ 19 j6) ||| (1 <<< (x3 &&& 31))) ((10 * x1) + x2) σ))))))))))
set_option maxHeartbeats 4000000 in
set_option maxRecDepth 20000 in
theorem vX6_tells_83 {p : Program} {l : Launch} {e : Env} {s : State} {m : MethodId} {args : Array Value} {below : List Frame} {meth : Method} {c : Code} {D : va_G} {A : Nat → Prop} {Q : State → Prop} {cy : Nat → ClassId} {ad : Nat → Nat} {res : Int32 × St_} (C : vv_X p s m args meth c D (tysW cy) A 6 cX6_tells RX6 wsX6_tells) (h0 : en_T A s) (hr : rt_I p l e rmX6_tells s m args below meth c D A 6 Q cX6_tells .boolean (wM cy ad res.2) res.1) : ∀ (t0 : Int32) (t1 : Int32) (σ : St_), fX6_tells_83  t0 t1 σ = some res → vv_ p l e rmX6_tells s m args below meth c D A 6 Q 0 0 (wM cy ad σ) [] 83 [.int t0, .int t1, .ref (ad 19)] := by
  intro t0 t1 σ hF
  replace hF : ((gd_ t1 100 fun j12 => some (1, uM σ 19 j12 t0)) : Option (Int32 × St_)) = some res := hF
  refine vv_iast (w' := fun j12 => (wM cy ad (uM σ 19 j12 t0))) C 15 0 (wM_g19 cy ad _) (tysW_0 cy) hF dX6_tells_83 (fun _ => wM_a19 _ _ _ _) (fun j12 hj12 hF => ?_)
  refine vv_iconst (v := 1) C dX6_tells_84 (by decide) ?_
  cases hF
  exact hr _ _ dX6_tells_85 nb_Z1
set_option maxHeartbeats 4000000 in
set_option maxRecDepth 20000 in
theorem kX6_tells (l : Launch) (D : va_G) (cy : Nat → ClassId) (ad : Nat → Nat) (x1 : Int32) (x2 : Int32) (x3 : Int32) (x4 : Int32) (σ : St_) (res : Int32 × St_)  (hF : fX6_tells x1 x2 x3 x4 σ = some res) : ct_I l D (tysW cy) en_T yX6_tells wsX6_tells rmX6_tells [.ref (ad 29), .int x1, .int x2, .int x3, .int x4] (wM cy ad σ) res.1 (wM cy ad res.2) := by
  refine mt_I (by decide) rfl (Nat.le_of_ble_eq_true rfl) ?_
  intro p e s m args below meth c A Q C h0 hr
  replace C : vv_X p s m args meth c D (tysW cy) A 6 cX6_tells RX6 wsX6_tells := C
  replace hF : ((bn_ (fX6_isFarm x1 σ) fun r1 => (if r1 = 0 then some (0, σ) else (bn_ (fX6_isFarm x2 σ) fun r2 => (if r2 = 0 then some (0, σ) else (bn_ (fX6_isVisit x1 x2 σ) fun r3 => (if r3 = 0 then some (0, σ) else (bn_ (fX6_lies x3 0 7) fun r4 => (if r4 = 0 then some (0, σ) else (if x4 = 0 then (gd_ ((10 * x1) + x2) 100 fun j5 => fX6_tells_83  ((sM σ 19 j5) &&& ((1 <<< (x3 &&& 31)) ^^^ (-1))) ((10 * x1) + x2) σ) else (gd_ ((10 * x1) + x2) 100 fun j6 => fX6_tells_83  ((sM σ 19 j6) ||| (1 <<< (x3 &&& 31))) ((10 * x1) + x2) σ)))))))))) : Option (Int32 × St_)) = some res := hF
  refine vv_lv [0, 1, 2, 3, 4] (lv' := [(0, .ref (ad 29)), (1, .int x1), (2, .int x2), (3, .int x3), (4, .int x4)]) rfl ?_
  refine vv_aload_n C dX6_tells_0 0 rfl ?_
  refine vv_iload_n C dX6_tells_1 1 rfl ?_
  refine vv_callVi (fun r1 => r1) (fun r1 => (wM cy ad σ)) C en_ok h0 [.int x1] [] 1 hF (fun r1 hr1 => kX6_isFarm l D cy ad x1 σ r1  hr1) gX6_tells_X6_isFarm rfl rfl rfl (by decide +kernel) ⟨by decide, by decide⟩ 25 (wM_g29 cy ad _) rfl rfl rfl (Nat.le_of_ble_eq_true rfl) dX6_tells_2 ⟨by decide, by decide⟩ (fun r1 hqr1 hF => ?_)
  refine vv_if_eq (tgt := 35) C dX6_tells_5 (by decide) hF (fun c11 hF => ?_) (fun c11 hF => ?_)
  · refine vv_iconst (v := 0) C dX6_tells_35 (by decide) ?_
    cases hF
    exact hr _ _ dX6_tells_36 nb_Z0
  · refine vv_aload_n C dX6_tells_8 0 rfl ?_
    refine vv_iload_n C dX6_tells_9 2 rfl ?_
    refine vv_callVi (fun r2 => r2) (fun r2 => (wM cy ad σ)) C en_ok h0 [.int x2] [] 1 hF (fun r2 hr2 => kX6_isFarm l D cy ad x2 σ r2  hr2) gX6_tells_X6_isFarm rfl rfl rfl (by decide +kernel) ⟨by decide, by decide⟩ 25 (wM_g29 cy ad _) rfl rfl rfl (Nat.le_of_ble_eq_true rfl) dX6_tells_10 ⟨by decide, by decide⟩ (fun r2 hqr2 hF => ?_)
    refine vv_if_eq (tgt := 35) C dX6_tells_13 (by decide) hF (fun c10 hF => ?_) (fun c10 hF => ?_)
    · refine vv_iconst (v := 0) C dX6_tells_35 (by decide) ?_
      cases hF
      exact hr _ _ dX6_tells_36 nb_Z0
    · refine vv_aload_n C dX6_tells_16 0 rfl ?_
      refine vv_iload_n C dX6_tells_17 1 rfl ?_
      refine vv_iload_n C dX6_tells_18 2 rfl ?_
      refine vv_callVi (fun r3 => r3) (fun r3 => (wM cy ad σ)) C en_ok h0 [.int x1, .int x2] [] 2 hF (fun r3 hr3 => kX6_isVisit l D cy ad x1 x2 σ r3  hr3) gX6_tells_X6_isVisit rfl rfl rfl (by decide +kernel) ⟨by decide, by decide⟩ 25 (wM_g29 cy ad _) rfl rfl rfl (Nat.le_of_ble_eq_true rfl) dX6_tells_19 ⟨by decide, by decide⟩ (fun r3 hqr3 hF => ?_)
      refine vv_if_eq (tgt := 35) C dX6_tells_22 (by decide) hF (fun c9 hF => ?_) (fun c9 hF => ?_)
      · refine vv_iconst (v := 0) C dX6_tells_35 (by decide) ?_
        cases hF
        exact hr _ _ dX6_tells_36 nb_Z0
      · refine vv_iload_n C dX6_tells_25 3 rfl ?_
        refine vv_iconst (v := 0) C dX6_tells_26 (by decide) ?_
        refine vv_bipush (v := 7) C dX6_tells_27 (by decide) ?_
        refine vv_callSi (fun r4 => r4) (fun r4 => (wM cy ad σ)) C en_ok h0 [.int x3, .int 0, .int 7] [] 3 hF (fun r4 hr4 => kX6_lies l D (tysW cy) en_ok (wM cy ad σ) x3 0 7 r4  hr4) gX6_tells_X6_lies rfl rfl rfl (by decide +kernel) ⟨by decide, by decide⟩ rfl rfl (Nat.le_of_ble_eq_true rfl) dX6_tells_29 ⟨by decide, by decide⟩ (fun r4 hqr4 hF => ?_)
        refine vv_if_ne (tgt := 37) C dX6_tells_32 (by decide) hF (fun c8 hF => ?_) (fun c8 hF => ?_)
        · refine vv_bipush (v := 10) C dX6_tells_37 (by decide) ?_
          refine vv_iload_n C dX6_tells_39 1 rfl ?_
          refine vv_imul C dX6_tells_40 ?_
          refine vv_iload_n C dX6_tells_41 2 rfl ?_
          refine vv_iadd C dX6_tells_42 ?_
          refine vv_istore (lv' := [(5, .int ((10 * x1) + x2)), (0, .ref (ad 29)), (1, .int x1), (2, .int x2), (3, .int x3), (4, .int x4)]) C dX6_tells_43 (by decide) rfl ?_
          refine vv_aload_n C dX6_tells_45 1 rfl ?_
          refine vv_get (v := .ref (ad 19)) C (hi_X6_tells_X6) 25 (wM_g29 cy ad _) rfl 19 (by decide) (List.mem_of_getElem? (i := 1) rfl) rfl dX6_tells_46 ?_
          refine vv_iload C dX6_tells_49 0 rfl ?_
          refine vv_iload C dX6_tells_51 5 rfl ?_
          refine vv_if_eq (tgt := 70) C dX6_tells_53 (by decide) hF (fun c7 hF => ?_) (fun c7 hF => ?_)
          · refine vv_aload_n C dX6_tells_70 1 rfl ?_
            refine vv_get (v := .ref (ad 19)) C (hi_X6_tells_X6) 25 (wM_g29 cy ad _) rfl 19 (by decide) (List.mem_of_getElem? (i := 1) rfl) rfl dX6_tells_71 ?_
            refine vv_iload C dX6_tells_74 0 rfl ?_
            refine vv_iald C 15 0 (wM_g19 cy ad _) (tysW_0 cy) hF dX6_tells_76 (fun j5 hj5 hF => ?_)
            refine vv_iconst (v := 1) C dX6_tells_77 (by decide) ?_
            refine vv_iload_n C dX6_tells_78 4 rfl ?_
            refine vv_ishl C dX6_tells_79 ?_
            refine vv_iconst (v := (-1)) C dX6_tells_80 (by decide) ?_
            refine vv_ixor C dX6_tells_81 ?_
            refine vv_iand C dX6_tells_82 ?_
            refine vv_lv [] rfl ?_
            exact vX6_tells_83 C h0 hr  ((sM σ 19 j5) &&& ((1 <<< (x3 &&& 31)) ^^^ (-1))) ((10 * x1) + x2) σ  hF
          · refine vv_aload_n C dX6_tells_56 1 rfl ?_
            refine vv_get (v := .ref (ad 19)) C (hi_X6_tells_X6) 25 (wM_g29 cy ad _) rfl 19 (by decide) (List.mem_of_getElem? (i := 1) rfl) rfl dX6_tells_57 ?_
            refine vv_iload C dX6_tells_60 0 rfl ?_
            refine vv_iald C 15 0 (wM_g19 cy ad _) (tysW_0 cy) hF dX6_tells_62 (fun j6 hj6 hF => ?_)
            refine vv_iconst (v := 1) C dX6_tells_63 (by decide) ?_
            refine vv_iload_n C dX6_tells_64 4 rfl ?_
            refine vv_ishl C dX6_tells_65 ?_
            refine vv_ior C dX6_tells_66 ?_
            refine vv_goto (tgt := 83) C dX6_tells_67 (by decide) ?_
            refine vv_lv [] rfl ?_
            exact vX6_tells_83 C h0 hr  ((sM σ 19 j6) ||| (1 <<< (x3 &&& 31))) ((10 * x1) + x2) σ  hF
        · refine vv_iconst (v := 0) C dX6_tells_35 (by decide) ?_
          cases hF
          exact hr _ _ dX6_tells_36 nb_Z0
/-! X6_breachesAt -/
abbrev rmX6_breachesAt : Room := { frames := 1, cells := 0, slots := 0, locals := 22 }
theorem hi_X6_breachesAt_X6 : ∀ w ∈ wsX60, w ∈ wsX6_breachesAt := fun w h => List.mem_cons_of_mem _ (List.mem_append_right _ h)
def fX6_breachesAt_57 (σ : St_) (k4 : Int32 → Int32 → Int32 → Option Int32) (k16 : Int32 → Int32 → Int32 → Int32 → Int32 → Option Int32) (x1 : Int32) (x2 : Int32) (x3 : Int32) (x5 : Int32) (t0 : Int32) (t1 : Int32) : Option Int32 := k16 x1 x2 x3 (t1 + t0) (x5 + 1)
def fX6_breachesAt_80 (σ : St_) (k4 : Int32 → Int32 → Int32 → Option Int32) (x1 : Int32) (x3 : Int32) (t0 : Int32) (t1 : Int32) : Option Int32 := k4 x1 (t1 ||| t0) (x3 + 1)
def fX6_breachesAt_66 (σ : St_) (k4 : Int32 → Int32 → Int32 → Option Int32) (x1 : Int32) (x2 : Int32) (x3 : Int32) (x4 : Int32) : Option Int32 := (if x4 ≤ 1 then fX6_breachesAt_80 σ (k4) x1 x3 0 x2 else fX6_breachesAt_80 σ (k4) x1 x3 (1 <<< (x3 &&& 31)) x2)
def fX6_breachesAt_16 (σ : St_) (k4 : Int32 → Int32 → Int32 → Option Int32) : Nat → Int32 → Int32 → Int32 → Int32 → Int32 → Option Int32
  | 0, _, _, _, _, _ => none
  | n + 1, x1, x2, x3, x4, x5 => (if (sS σ 2) ≤ x5 then fX6_breachesAt_66 σ (k4) x1 x2 x3 x4 else (bn_ (fX6_isVisit x5 x1 σ) fun r2 => (if r2 = 0 then fX6_breachesAt_57 σ (k4) (fX6_breachesAt_16 σ k4 n) x1 x2 x3 x5 0 x4 else (gd_ ((10 * x5) + x1) 100 fun j3 => fX6_breachesAt_57 σ (k4) (fX6_breachesAt_16 σ k4 n) x1 x2 x3 x5 (((sM σ 19 j3) >>> (x3 &&& 31)) &&& 1) x4))))
def fX6_breachesAt_4 (σ : St_) : Nat → Int32 → Int32 → Int32 → Option Int32
  | 0, _, _, _ => none
  | n + 1, x1, x2, x3 => (if 8 ≤ x3 then some x2 else fX6_breachesAt_16 σ (fX6_breachesAt_4 σ  n) FU_ x1 x2 x3 0 0)
def fX6_breachesAt (x1 : Int32) (σ : St_) : Option Int32 := fX6_breachesAt_4 σ  FU_ x1 0 0
set_option maxHeartbeats 4000000 in
set_option maxRecDepth 20000 in
theorem vX6_breachesAt_57 {p : Program} {l : Launch} {e : Env} {s : State} {m : MethodId} {args : Array Value} {below : List Frame} {meth : Method} {c : Code} {D : va_G} {A : Nat → Prop} {Q : State → Prop} {cy : Nat → ClassId} {ad : Nat → Nat} {k4 : Int32 → Int32 → Int32 → Option Int32} {k16 : Int32 → Int32 → Int32 → Int32 → Int32 → Option Int32} {σ : St_} {res : Int32} (C : vv_X p s m args meth c D (tysW cy) A 6 cX6_breachesAt RX6 wsX6_breachesAt) (h0 : en_T A s) (hr : rt_I p l e rmX6_breachesAt s m args below meth c D A 6 Q cX6_breachesAt .int (wM cy ad σ) res) (hk4 : ∀ (x1 : Int32) (x2 : Int32) (x3 : Int32), k4 x1 x2 x3 = some res → vv_ p l e rmX6_breachesAt s m args below meth c D A 6 Q 0 0 (wM cy ad σ) [(0, .ref (ad 29)), (1, .int x1), (2, .int x2), (3, .int x3)] 4 []) (hk16 : ∀ (x1 : Int32) (x2 : Int32) (x3 : Int32) (x4 : Int32) (x5 : Int32), k16 x1 x2 x3 x4 x5 = some res → vv_ p l e rmX6_breachesAt s m args below meth c D A 6 Q 0 0 (wM cy ad σ) [(0, .ref (ad 29)), (1, .int x1), (2, .int x2), (3, .int x3), (4, .int x4), (5, .int x5)] 16 []) : ∀ (x1 : Int32) (x2 : Int32) (x3 : Int32) (x5 : Int32) (t0 : Int32) (t1 : Int32), fX6_breachesAt_57 σ k4 k16 x1 x2 x3 x5 t0 t1 = some res → vv_ p l e rmX6_breachesAt s m args below meth c D A 6 Q 0 0 (wM cy ad σ) [(0, .ref (ad 29)), (1, .int x1), (2, .int x2), (3, .int x3), (5, .int x5)] 57 [.int t0, .int t1] := by
  intro x1 x2 x3 x5 t0 t1 hF
  replace hF : (k16 x1 x2 x3 (t1 + t0) (x5 + 1) : Option Int32) = some res := hF
  refine vv_iadd C dX6_breachesAt_57 ?_
  refine vv_istore (lv' := [(4, .int (t1 + t0)), (0, .ref (ad 29)), (1, .int x1), (2, .int x2), (3, .int x3), (5, .int x5)]) C dX6_breachesAt_58 (by decide) rfl ?_
  refine vv_iinc (q := 5) (v := x5 + 1) (lv' := [(5, .int (x5 + 1)), (4, .int (t1 + t0)), (0, .ref (ad 29)), (1, .int x1), (2, .int x2), (3, .int x3)]) C dX6_breachesAt_60 rfl rfl (by decide) rfl ?_
  refine vv_goto (tgt := 16) C dX6_breachesAt_63 (by decide) ?_
  refine vv_lv [2, 3, 4, 5, 1, 0] rfl ?_
  exact hk16 x1 x2 x3 (t1 + t0) (x5 + 1)  hF
set_option maxHeartbeats 4000000 in
set_option maxRecDepth 20000 in
theorem vX6_breachesAt_80 {p : Program} {l : Launch} {e : Env} {s : State} {m : MethodId} {args : Array Value} {below : List Frame} {meth : Method} {c : Code} {D : va_G} {A : Nat → Prop} {Q : State → Prop} {cy : Nat → ClassId} {ad : Nat → Nat} {k4 : Int32 → Int32 → Int32 → Option Int32} {σ : St_} {res : Int32} (C : vv_X p s m args meth c D (tysW cy) A 6 cX6_breachesAt RX6 wsX6_breachesAt) (h0 : en_T A s) (hr : rt_I p l e rmX6_breachesAt s m args below meth c D A 6 Q cX6_breachesAt .int (wM cy ad σ) res) (hk4 : ∀ (x1 : Int32) (x2 : Int32) (x3 : Int32), k4 x1 x2 x3 = some res → vv_ p l e rmX6_breachesAt s m args below meth c D A 6 Q 0 0 (wM cy ad σ) [(0, .ref (ad 29)), (1, .int x1), (2, .int x2), (3, .int x3)] 4 []) : ∀ (x1 : Int32) (x3 : Int32) (t0 : Int32) (t1 : Int32), fX6_breachesAt_80 σ k4 x1 x3 t0 t1 = some res → vv_ p l e rmX6_breachesAt s m args below meth c D A 6 Q 0 0 (wM cy ad σ) [(0, .ref (ad 29)), (1, .int x1), (3, .int x3)] 80 [.int t0, .int t1] := by
  intro x1 x3 t0 t1 hF
  replace hF : (k4 x1 (t1 ||| t0) (x3 + 1) : Option Int32) = some res := hF
  refine vv_ior C dX6_breachesAt_80 ?_
  refine vv_istore_n (lv' := [(2, .int (t1 ||| t0)), (0, .ref (ad 29)), (1, .int x1), (3, .int x3)]) C dX6_breachesAt_81 (by decide) rfl ?_
  refine vv_iinc (q := 3) (v := x3 + 1) (lv' := [(3, .int (x3 + 1)), (2, .int (t1 ||| t0)), (0, .ref (ad 29)), (1, .int x1)]) C dX6_breachesAt_82 rfl rfl (by decide) rfl ?_
  refine vv_goto (tgt := 4) C dX6_breachesAt_85 (by decide) ?_
  refine vv_lv [2, 3, 1, 0] rfl ?_
  exact hk4 x1 (t1 ||| t0) (x3 + 1)  hF
set_option maxHeartbeats 4000000 in
set_option maxRecDepth 20000 in
theorem vX6_breachesAt_66 {p : Program} {l : Launch} {e : Env} {s : State} {m : MethodId} {args : Array Value} {below : List Frame} {meth : Method} {c : Code} {D : va_G} {A : Nat → Prop} {Q : State → Prop} {cy : Nat → ClassId} {ad : Nat → Nat} {k4 : Int32 → Int32 → Int32 → Option Int32} {σ : St_} {res : Int32} (C : vv_X p s m args meth c D (tysW cy) A 6 cX6_breachesAt RX6 wsX6_breachesAt) (h0 : en_T A s) (hr : rt_I p l e rmX6_breachesAt s m args below meth c D A 6 Q cX6_breachesAt .int (wM cy ad σ) res) (hk4 : ∀ (x1 : Int32) (x2 : Int32) (x3 : Int32), k4 x1 x2 x3 = some res → vv_ p l e rmX6_breachesAt s m args below meth c D A 6 Q 0 0 (wM cy ad σ) [(0, .ref (ad 29)), (1, .int x1), (2, .int x2), (3, .int x3)] 4 []) : ∀ (x1 : Int32) (x2 : Int32) (x3 : Int32) (x4 : Int32), fX6_breachesAt_66 σ k4 x1 x2 x3 x4 = some res → vv_ p l e rmX6_breachesAt s m args below meth c D A 6 Q 0 0 (wM cy ad σ) [(0, .ref (ad 29)), (1, .int x1), (2, .int x2), (3, .int x3), (4, .int x4)] 66 [] := by
  intro x1 x2 x3 x4 hF
  replace hF : ((if x4 ≤ 1 then fX6_breachesAt_80 σ (k4) x1 x3 0 x2 else fX6_breachesAt_80 σ (k4) x1 x3 (1 <<< (x3 &&& 31)) x2) : Option Int32) = some res := hF
  refine vv_iload_n C dX6_breachesAt_66 2 rfl ?_
  refine vv_iload C dX6_breachesAt_67 4 rfl ?_
  refine vv_iconst (v := 1) C dX6_breachesAt_69 (by decide) ?_
  refine vv_icmp_le (tgt := 79) C dX6_breachesAt_70 (by decide) hF (fun c6 hF => ?_) (fun c6 hF => ?_)
  · refine vv_iconst (v := 0) C dX6_breachesAt_79 (by decide) ?_
    refine vv_lv [0, 1, 3] rfl ?_
    exact vX6_breachesAt_80 C h0 hr (hk4) x1 x3 0 x2  hF
  · refine vv_iconst (v := 1) C dX6_breachesAt_73 (by decide) ?_
    refine vv_iload_n C dX6_breachesAt_74 3 rfl ?_
    refine vv_ishl C dX6_breachesAt_75 ?_
    refine vv_goto (tgt := 80) C dX6_breachesAt_76 (by decide) ?_
    refine vv_lv [0, 1, 3] rfl ?_
    exact vX6_breachesAt_80 C h0 hr (hk4) x1 x3 (1 <<< (x3 &&& 31)) x2  hF
set_option maxHeartbeats 4000000 in
set_option maxRecDepth 20000 in
theorem vX6_breachesAt_16 {p : Program} {l : Launch} {e : Env} {s : State} {m : MethodId} {args : Array Value} {below : List Frame} {meth : Method} {c : Code} {D : va_G} {A : Nat → Prop} {Q : State → Prop} {cy : Nat → ClassId} {ad : Nat → Nat} {k4 : Int32 → Int32 → Int32 → Option Int32} {σ : St_} {res : Int32} (C : vv_X p s m args meth c D (tysW cy) A 6 cX6_breachesAt RX6 wsX6_breachesAt) (h0 : en_T A s) (hr : rt_I p l e rmX6_breachesAt s m args below meth c D A 6 Q cX6_breachesAt .int (wM cy ad σ) res) (hk4 : ∀ (x1 : Int32) (x2 : Int32) (x3 : Int32), k4 x1 x2 x3 = some res → vv_ p l e rmX6_breachesAt s m args below meth c D A 6 Q 0 0 (wM cy ad σ) [(0, .ref (ad 29)), (1, .int x1), (2, .int x2), (3, .int x3)] 4 []) : ∀ (n : Nat) (x1 : Int32) (x2 : Int32) (x3 : Int32) (x4 : Int32) (x5 : Int32), fX6_breachesAt_16 σ k4 n x1 x2 x3 x4 x5 = some res → vv_ p l e rmX6_breachesAt s m args below meth c D A 6 Q 0 0 (wM cy ad σ) [(0, .ref (ad 29)), (1, .int x1), (2, .int x2), (3, .int x3), (4, .int x4), (5, .int x5)] 16 [] := by
  intro n
  induction n with
  | zero =>
    intro x1 x2 x3 x4 x5 hF
    cases (show none = some res from hF)
  | succ n ih =>
    intro x1 x2 x3 x4 x5 hF
    replace hF : ((if (sS σ 2) ≤ x5 then fX6_breachesAt_66 σ (k4) x1 x2 x3 x4 else (bn_ (fX6_isVisit x5 x1 σ) fun r2 => (if r2 = 0 then fX6_breachesAt_57 σ (k4) (fX6_breachesAt_16 σ k4 n) x1 x2 x3 x5 0 x4 else (gd_ ((10 * x5) + x1) 100 fun j3 => fX6_breachesAt_57 σ (k4) (fX6_breachesAt_16 σ k4 n) x1 x2 x3 x5 (((sM σ 19 j3) >>> (x3 &&& 31)) &&& 1) x4)))) : Option Int32) = some res := hF
    refine vv_iload C dX6_breachesAt_16 5 rfl ?_
    refine vv_aload_n C dX6_breachesAt_18 0 rfl ?_
    refine vv_get (v := .int (sS σ 2)) C (hi_X6_breachesAt_X6) 25 (wM_g29 cy ad _) rfl 2 (by decide) (List.mem_of_getElem? (i := 1) rfl) rfl dX6_breachesAt_19 ?_
    refine vv_icmp_ge (tgt := 66) C dX6_breachesAt_22 (by decide) hF (fun c5 hF => ?_) (fun c5 hF => ?_)
    · refine vv_lv [0, 1, 2, 3, 4] rfl ?_
      exact vX6_breachesAt_66 C h0 hr (hk4) x1 x2 x3 x4  hF
    · refine vv_iload C dX6_breachesAt_25 4 rfl ?_
      refine vv_aload_n C dX6_breachesAt_27 0 rfl ?_
      refine vv_iload C dX6_breachesAt_28 5 rfl ?_
      refine vv_iload_n C dX6_breachesAt_30 1 rfl ?_
      refine vv_callVi (fun r2 => r2) (fun r2 => (wM cy ad σ)) C en_ok h0 [.int x5, .int x1] [.int x4] 2 hF (fun r2 hr2 => kX6_isVisit l D cy ad x5 x1 σ r2  hr2) gX6_breachesAt_X6_isVisit rfl rfl rfl (by decide +kernel) ⟨by decide, by decide⟩ 25 (wM_g29 cy ad _) rfl rfl rfl (Nat.le_of_ble_eq_true rfl) dX6_breachesAt_31 ⟨by decide, by decide⟩ (fun r2 hqr2 hF => ?_)
      refine vv_if_eq (tgt := 56) C dX6_breachesAt_34 (by decide) hF (fun c4 hF => ?_) (fun c4 hF => ?_)
      · refine vv_iconst (v := 0) C dX6_breachesAt_56 (by decide) ?_
        refine vv_lv [0, 1, 2, 3, 5] rfl ?_
        exact vX6_breachesAt_57 C h0 hr (hk4) (ih) x1 x2 x3 x5 0 x4  hF
      · refine vv_aload_n C dX6_breachesAt_37 0 rfl ?_
        refine vv_get (v := .ref (ad 19)) C (hi_X6_breachesAt_X6) 25 (wM_g29 cy ad _) rfl 19 (by decide) (List.mem_of_getElem? (i := 2) rfl) rfl dX6_breachesAt_38 ?_
        refine vv_bipush (v := 10) C dX6_breachesAt_41 (by decide) ?_
        refine vv_iload C dX6_breachesAt_43 5 rfl ?_
        refine vv_imul C dX6_breachesAt_45 ?_
        refine vv_iload_n C dX6_breachesAt_46 1 rfl ?_
        refine vv_iadd C dX6_breachesAt_47 ?_
        refine vv_iald C 15 0 (wM_g19 cy ad _) (tysW_0 cy) hF dX6_breachesAt_48 (fun j3 hj3 hF => ?_)
        refine vv_iload_n C dX6_breachesAt_49 3 rfl ?_
        refine vv_ishr C dX6_breachesAt_50 ?_
        refine vv_iconst (v := 1) C dX6_breachesAt_51 (by decide) ?_
        refine vv_iand C dX6_breachesAt_52 ?_
        refine vv_goto (tgt := 57) C dX6_breachesAt_53 (by decide) ?_
        refine vv_lv [0, 1, 2, 3, 5] rfl ?_
        exact vX6_breachesAt_57 C h0 hr (hk4) (ih) x1 x2 x3 x5 (((sM σ 19 j3) >>> (x3 &&& 31)) &&& 1) x4  hF
set_option maxHeartbeats 4000000 in
set_option maxRecDepth 20000 in
theorem vX6_breachesAt_4 {p : Program} {l : Launch} {e : Env} {s : State} {m : MethodId} {args : Array Value} {below : List Frame} {meth : Method} {c : Code} {D : va_G} {A : Nat → Prop} {Q : State → Prop} {cy : Nat → ClassId} {ad : Nat → Nat} {σ : St_} {res : Int32} (C : vv_X p s m args meth c D (tysW cy) A 6 cX6_breachesAt RX6 wsX6_breachesAt) (h0 : en_T A s) (hr : rt_I p l e rmX6_breachesAt s m args below meth c D A 6 Q cX6_breachesAt .int (wM cy ad σ) res) : ∀ (n : Nat) (x1 : Int32) (x2 : Int32) (x3 : Int32), fX6_breachesAt_4 σ  n x1 x2 x3 = some res → vv_ p l e rmX6_breachesAt s m args below meth c D A 6 Q 0 0 (wM cy ad σ) [(0, .ref (ad 29)), (1, .int x1), (2, .int x2), (3, .int x3)] 4 [] := by
  intro n
  induction n with
  | zero =>
    intro x1 x2 x3 hF
    cases (show none = some res from hF)
  | succ n ih =>
    intro x1 x2 x3 hF
    replace hF : ((if 8 ≤ x3 then some x2 else fX6_breachesAt_16 σ (fX6_breachesAt_4 σ  n) FU_ x1 x2 x3 0 0) : Option Int32) = some res := hF
    refine vv_iload_n C dX6_breachesAt_4 3 rfl ?_
    refine vv_bipush (v := 8) C dX6_breachesAt_5 (by decide) ?_
    refine vv_icmp_ge (tgt := 88) C dX6_breachesAt_7 (by decide) hF (fun c1 hF => ?_) (fun c1 hF => ?_)
    · refine vv_iload_n C dX6_breachesAt_88 2 rfl ?_
      cases hF
      exact hr _ _ dX6_breachesAt_89 rfl
    · refine vv_iconst (v := 0) C dX6_breachesAt_10 (by decide) ?_
      refine vv_istore (lv' := [(4, .int 0), (0, .ref (ad 29)), (1, .int x1), (2, .int x2), (3, .int x3)]) C dX6_breachesAt_11 (by decide) rfl ?_
      refine vv_iconst (v := 0) C dX6_breachesAt_13 (by decide) ?_
      refine vv_istore (lv' := [(5, .int 0), (4, .int 0), (0, .ref (ad 29)), (1, .int x1), (2, .int x2), (3, .int x3)]) C dX6_breachesAt_14 (by decide) rfl ?_
      refine vv_lv [2, 3, 4, 5, 1, 0] rfl ?_
      exact vX6_breachesAt_16 C h0 hr (ih) FU_ x1 x2 x3 0 0  hF
set_option maxHeartbeats 4000000 in
set_option maxRecDepth 20000 in
theorem kX6_breachesAt (l : Launch) (D : va_G) (cy : Nat → ClassId) (ad : Nat → Nat) (x1 : Int32) (σ : St_) (res : Int32)  (hF : fX6_breachesAt x1 σ = some res) : ct_I l D (tysW cy) en_T yX6_breachesAt wsX6_breachesAt rmX6_breachesAt [.ref (ad 29), .int x1] (wM cy ad σ) res (wM cy ad σ) := by
  refine mt_I (by decide) rfl (Nat.le_of_ble_eq_true rfl) ?_
  intro p e s m args below meth c A Q C h0 hr
  replace C : vv_X p s m args meth c D (tysW cy) A 6 cX6_breachesAt RX6 wsX6_breachesAt := C
  replace hF : (fX6_breachesAt_4 σ  FU_ x1 0 0 : Option Int32) = some res := hF
  refine vv_lv [0, 1] (lv' := [(0, .ref (ad 29)), (1, .int x1)]) rfl ?_
  refine vv_iconst (v := 0) C dX6_breachesAt_0 (by decide) ?_
  refine vv_istore_n (lv' := [(2, .int 0), (0, .ref (ad 29)), (1, .int x1)]) C dX6_breachesAt_1 (by decide) rfl ?_
  refine vv_iconst (v := 0) C dX6_breachesAt_2 (by decide) ?_
  refine vv_istore_n (lv' := [(3, .int 0), (2, .int 0), (0, .ref (ad 29)), (1, .int x1)]) C dX6_breachesAt_3 (by decide) rfl ?_
  refine vv_lv [2, 3, 1, 0] rfl ?_
  exact vX6_breachesAt_4 C h0 hr  FU_ x1 0 0  hF
/-! X6_weighsAt -/
abbrev rmX6_weighsAt : Room := { frames := 2, cells := 0, slots := 0, locals := 47 }
theorem hi_X6_weighsAt_X6 : ∀ w ∈ wsX60, w ∈ wsX6_weighsAt := fun w h => List.mem_cons_of_mem _ (List.mem_append_right _ h)
def fX6_weighsAt_11 (σ : St_) : Nat → Int32 → Int32 → Int32 → Option Int32
  | 0, _, _, _ => none
  | n + 1, x2, x3, x4 => (if 8 ≤ x4 then some x3 else (gd_ x4 8 fun j2 => fX6_weighsAt_11 σ  n x2 (x3 + (((x2 >>> (x4 &&& 31)) &&& 1) * (sM σ 9 j2))) (x4 + 1)))
def fX6_weighsAt (x1 : Int32) (σ : St_) : Option Int32 := (bn_ (fX6_breachesAt x1 σ) fun r1 => fX6_weighsAt_11 σ  FU_ r1 0 0)
set_option maxHeartbeats 4000000 in
set_option maxRecDepth 20000 in
theorem vX6_weighsAt_11 {p : Program} {l : Launch} {e : Env} {s : State} {m : MethodId} {args : Array Value} {below : List Frame} {meth : Method} {c : Code} {D : va_G} {A : Nat → Prop} {Q : State → Prop} {cy : Nat → ClassId} {ad : Nat → Nat} {σ : St_} {res : Int32} (C : vv_X p s m args meth c D (tysW cy) A 5 cX6_weighsAt RX6 wsX6_weighsAt) (h0 : en_T A s) (hr : rt_I p l e rmX6_weighsAt s m args below meth c D A 5 Q cX6_weighsAt .int (wM cy ad σ) res) : ∀ (n : Nat) (x2 : Int32) (x3 : Int32) (x4 : Int32), fX6_weighsAt_11 σ  n x2 x3 x4 = some res → vv_ p l e rmX6_weighsAt s m args below meth c D A 5 Q 0 0 (wM cy ad σ) [(0, .ref (ad 29)), (2, .int x2), (3, .int x3), (4, .int x4)] 11 [] := by
  intro n
  induction n with
  | zero =>
    intro x2 x3 x4 hF
    cases (show none = some res from hF)
  | succ n ih =>
    intro x2 x3 x4 hF
    replace hF : ((if 8 ≤ x4 then some x3 else (gd_ x4 8 fun j2 => fX6_weighsAt_11 σ  n x2 (x3 + (((x2 >>> (x4 &&& 31)) &&& 1) * (sM σ 9 j2))) (x4 + 1))) : Option Int32) = some res := hF
    refine vv_iload C dX6_weighsAt_11 3 rfl ?_
    refine vv_bipush (v := 8) C dX6_weighsAt_13 (by decide) ?_
    refine vv_icmp_ge (tgt := 41) C dX6_weighsAt_15 (by decide) hF (fun c3 hF => ?_) (fun c3 hF => ?_)
    · refine vv_iload_n C dX6_weighsAt_41 2 rfl ?_
      cases hF
      exact hr _ _ dX6_weighsAt_42 rfl
    · refine vv_iload_n C dX6_weighsAt_18 2 rfl ?_
      refine vv_iload_n C dX6_weighsAt_19 1 rfl ?_
      refine vv_iload C dX6_weighsAt_20 3 rfl ?_
      refine vv_ishr C dX6_weighsAt_22 ?_
      refine vv_iconst (v := 1) C dX6_weighsAt_23 (by decide) ?_
      refine vv_iand C dX6_weighsAt_24 ?_
      refine vv_aload_n C dX6_weighsAt_25 0 rfl ?_
      refine vv_get (v := .ref (ad 9)) C (hi_X6_weighsAt_X6) 25 (wM_g29 cy ad _) rfl 9 (by decide) (List.mem_of_getElem? (i := 1) rfl) rfl dX6_weighsAt_26 ?_
      refine vv_iload C dX6_weighsAt_29 3 rfl ?_
      refine vv_iald C 5 0 (wM_g9 cy ad _) (tysW_0 cy) hF dX6_weighsAt_31 (fun j2 hj2 hF => ?_)
      refine vv_imul C dX6_weighsAt_32 ?_
      refine vv_iadd C dX6_weighsAt_33 ?_
      refine vv_istore_n (lv' := [(3, .int (x3 + (((x2 >>> (x4 &&& 31)) &&& 1) * (sM σ 9 j2)))), (0, .ref (ad 29)), (2, .int x2), (4, .int x4)]) C dX6_weighsAt_34 (by decide) rfl ?_
      refine vv_iinc (q := 3) (v := x4 + 1) (lv' := [(4, .int (x4 + 1)), (3, .int (x3 + (((x2 >>> (x4 &&& 31)) &&& 1) * (sM σ 9 j2)))), (0, .ref (ad 29)), (2, .int x2)]) C dX6_weighsAt_35 rfl rfl (by decide) rfl ?_
      refine vv_goto (tgt := 11) C dX6_weighsAt_38 (by decide) ?_
      refine vv_lv [2, 3, 1, 0] rfl ?_
      exact ih x2 (x3 + (((x2 >>> (x4 &&& 31)) &&& 1) * (sM σ 9 j2))) (x4 + 1)  hF
set_option maxHeartbeats 4000000 in
set_option maxRecDepth 20000 in
theorem kX6_weighsAt (l : Launch) (D : va_G) (cy : Nat → ClassId) (ad : Nat → Nat) (x1 : Int32) (σ : St_) (res : Int32)  (hF : fX6_weighsAt x1 σ = some res) : ct_I l D (tysW cy) en_T yX6_weighsAt wsX6_weighsAt rmX6_weighsAt [.ref (ad 29), .int x1] (wM cy ad σ) res (wM cy ad σ) := by
  refine mt_I (by decide) rfl (Nat.le_of_ble_eq_true rfl) ?_
  intro p e s m args below meth c A Q C h0 hr
  replace C : vv_X p s m args meth c D (tysW cy) A 5 cX6_weighsAt RX6 wsX6_weighsAt := C
  replace hF : ((bn_ (fX6_breachesAt x1 σ) fun r1 => fX6_weighsAt_11 σ  FU_ r1 0 0) : Option Int32) = some res := hF
  refine vv_lv [0, 1] (lv' := [(0, .ref (ad 29)), (1, .int x1)]) rfl ?_
  refine vv_aload_n C dX6_weighsAt_0 0 rfl ?_
  refine vv_iload_n C dX6_weighsAt_1 1 rfl ?_
  refine vv_callVi (fun r1 => r1) (fun r1 => (wM cy ad σ)) C en_ok h0 [.int x1] [] 1 hF (fun r1 hr1 => kX6_breachesAt l D cy ad x1 σ r1  hr1) gX6_weighsAt_X6_breachesAt rfl rfl rfl (by decide +kernel) ⟨by decide, by decide⟩ 25 (wM_g29 cy ad _) rfl rfl rfl (Nat.le_of_ble_eq_true rfl) dX6_weighsAt_2 ⟨by decide, by decide⟩ (fun r1 hqr1 hF => ?_)
  refine vv_istore_n (lv' := [(2, .int r1), (0, .ref (ad 29)), (1, .int x1)]) C dX6_weighsAt_5 (by decide) rfl ?_
  refine vv_iconst (v := 0) C dX6_weighsAt_6 (by decide) ?_
  refine vv_istore_n (lv' := [(3, .int 0), (2, .int r1), (0, .ref (ad 29)), (1, .int x1)]) C dX6_weighsAt_7 (by decide) rfl ?_
  refine vv_iconst (v := 0) C dX6_weighsAt_8 (by decide) ?_
  refine vv_istore (lv' := [(4, .int 0), (3, .int 0), (2, .int r1), (0, .ref (ad 29)), (1, .int x1)]) C dX6_weighsAt_9 (by decide) rfl ?_
  refine vv_lv [3, 2, 1, 0] rfl ?_
  exact vX6_weighsAt_11 C h0 hr  FU_ r1 0 0  hF
/-! X6_breaches -/
abbrev rmX6_breaches : Room := { frames := 2, cells := 0, slots := 0, locals := 47 }
def fX6_breaches (x1 : Int32) (σ : St_) : Option Int32 := (bn_ (fX6_isFarm x1 σ) fun r1 => (if r1 = 0 then some (-1) else (bn_ (fX6_breachesAt x1 σ) fun r2 => some r2)))
set_option maxHeartbeats 4000000 in
set_option maxRecDepth 20000 in
theorem kX6_breaches (l : Launch) (D : va_G) (cy : Nat → ClassId) (ad : Nat → Nat) (x1 : Int32) (σ : St_) (res : Int32)  (hF : fX6_breaches x1 σ = some res) : ct_I l D (tysW cy) en_T yX6_breaches wsX6_breaches rmX6_breaches [.ref (ad 29), .int x1] (wM cy ad σ) res (wM cy ad σ) := by
  refine mt_I (by decide) rfl (Nat.le_of_ble_eq_true rfl) ?_
  intro p e s m args below meth c A Q C h0 hr
  replace C : vv_X p s m args meth c D (tysW cy) A 2 cX6_breaches RX6 wsX6_breaches := C
  replace hF : ((bn_ (fX6_isFarm x1 σ) fun r1 => (if r1 = 0 then some (-1) else (bn_ (fX6_breachesAt x1 σ) fun r2 => some r2))) : Option Int32) = some res := hF
  refine vv_lv [0, 1] (lv' := [(0, .ref (ad 29)), (1, .int x1)]) rfl ?_
  refine vv_aload_n C dX6_breaches_0 0 rfl ?_
  refine vv_iload_n C dX6_breaches_1 1 rfl ?_
  refine vv_callVi (fun r1 => r1) (fun r1 => (wM cy ad σ)) C en_ok h0 [.int x1] [] 1 hF (fun r1 hr1 => kX6_isFarm l D cy ad x1 σ r1  hr1) gX6_breaches_X6_isFarm rfl rfl rfl (by decide +kernel) ⟨by decide, by decide⟩ 25 (wM_g29 cy ad _) rfl rfl rfl (Nat.le_of_ble_eq_true rfl) dX6_breaches_2 ⟨by decide, by decide⟩ (fun r1 hqr1 hF => ?_)
  refine vv_if_eq (tgt := 16) C dX6_breaches_5 (by decide) hF (fun c3 hF => ?_) (fun c3 hF => ?_)
  · refine vv_iconst (v := (-1)) C dX6_breaches_16 (by decide) ?_
    cases hF
    exact hr _ _ dX6_breaches_17 rfl
  · refine vv_aload_n C dX6_breaches_8 0 rfl ?_
    refine vv_iload_n C dX6_breaches_9 1 rfl ?_
    refine vv_callVi (fun r2 => r2) (fun r2 => (wM cy ad σ)) C en_ok h0 [.int x1] [] 1 hF (fun r2 hr2 => kX6_breachesAt l D cy ad x1 σ r2  hr2) gX6_breaches_X6_breachesAt rfl rfl rfl (by decide +kernel) ⟨by decide, by decide⟩ 25 (wM_g29 cy ad _) rfl rfl rfl (Nat.le_of_ble_eq_true rfl) dX6_breaches_10 ⟨by decide, by decide⟩ (fun r2 hqr2 hF => ?_)
    refine vv_goto (tgt := 17) C dX6_breaches_13 (by decide) ?_
    cases hF
    exact hr _ _ dX6_breaches_17 rfl
/-! X6_weighs -/
abbrev rmX6_weighs : Room := { frames := 3, cells := 0, slots := 0, locals := 71 }
def fX6_weighs (x1 : Int32) (σ : St_) : Option Int32 := (bn_ (fX6_isFarm x1 σ) fun r1 => (if r1 = 0 then some (-1) else (bn_ (fX6_weighsAt x1 σ) fun r2 => some r2)))
set_option maxHeartbeats 4000000 in
set_option maxRecDepth 20000 in
theorem kX6_weighs (l : Launch) (D : va_G) (cy : Nat → ClassId) (ad : Nat → Nat) (x1 : Int32) (σ : St_) (res : Int32)  (hF : fX6_weighs x1 σ = some res) : ct_I l D (tysW cy) en_T yX6_weighs wsX6_weighs rmX6_weighs [.ref (ad 29), .int x1] (wM cy ad σ) res (wM cy ad σ) := by
  refine mt_I (by decide) rfl (Nat.le_of_ble_eq_true rfl) ?_
  intro p e s m args below meth c A Q C h0 hr
  replace C : vv_X p s m args meth c D (tysW cy) A 2 cX6_weighs RX6 wsX6_weighs := C
  replace hF : ((bn_ (fX6_isFarm x1 σ) fun r1 => (if r1 = 0 then some (-1) else (bn_ (fX6_weighsAt x1 σ) fun r2 => some r2))) : Option Int32) = some res := hF
  refine vv_lv [0, 1] (lv' := [(0, .ref (ad 29)), (1, .int x1)]) rfl ?_
  refine vv_aload_n C dX6_weighs_0 0 rfl ?_
  refine vv_iload_n C dX6_weighs_1 1 rfl ?_
  refine vv_callVi (fun r1 => r1) (fun r1 => (wM cy ad σ)) C en_ok h0 [.int x1] [] 1 hF (fun r1 hr1 => kX6_isFarm l D cy ad x1 σ r1  hr1) gX6_weighs_X6_isFarm rfl rfl rfl (by decide +kernel) ⟨by decide, by decide⟩ 25 (wM_g29 cy ad _) rfl rfl rfl (Nat.le_of_ble_eq_true rfl) dX6_weighs_2 ⟨by decide, by decide⟩ (fun r1 hqr1 hF => ?_)
  refine vv_if_eq (tgt := 16) C dX6_weighs_5 (by decide) hF (fun c3 hF => ?_) (fun c3 hF => ?_)
  · refine vv_iconst (v := (-1)) C dX6_weighs_16 (by decide) ?_
    cases hF
    exact hr _ _ dX6_weighs_17 rfl
  · refine vv_aload_n C dX6_weighs_8 0 rfl ?_
    refine vv_iload_n C dX6_weighs_9 1 rfl ?_
    refine vv_callVi (fun r2 => r2) (fun r2 => (wM cy ad σ)) C en_ok h0 [.int x1] [] 1 hF (fun r2 hr2 => kX6_weighsAt l D cy ad x1 σ r2  hr2) gX6_weighs_X6_weighsAt rfl rfl rfl (by decide +kernel) ⟨by decide, by decide⟩ 25 (wM_g29 cy ad _) rfl rfl rfl (Nat.le_of_ble_eq_true rfl) dX6_weighs_10 ⟨by decide, by decide⟩ (fun r2 hqr2 hF => ?_)
    refine vv_goto (tgt := 17) C dX6_weighs_13 (by decide) ?_
    cases hF
    exact hr _ _ dX6_weighs_17 rfl
/-! X6_isVouched -/
abbrev rmX6_isVouched : Room := { frames := 1, cells := 0, slots := 0, locals := 22 }
theorem hi_X6_isVouched_X6 : ∀ w ∈ wsX60, w ∈ wsX6_isVouched := fun w h => List.mem_cons_of_mem _ (List.mem_append_right _ h)
def fX6_isVouched (x1 : Int32) (x2 : Int32) (σ : St_) : Option Int32 := (bn_ (fX6_isVisit x1 x2 σ) fun r1 => (if r1 = 0 then some 0 else (gd_ ((10 * x1) + x2) 100 fun j2 => (if (sM σ 19 j2) = 0 then some 1 else some 0))))
set_option maxHeartbeats 4000000 in
set_option maxRecDepth 20000 in
theorem kX6_isVouched (l : Launch) (D : va_G) (cy : Nat → ClassId) (ad : Nat → Nat) (x1 : Int32) (x2 : Int32) (σ : St_) (res : Int32)  (hF : fX6_isVouched x1 x2 σ = some res) : ct_I l D (tysW cy) en_T yX6_isVouched wsX6_isVouched rmX6_isVouched [.ref (ad 29), .int x1, .int x2] (wM cy ad σ) res (wM cy ad σ) := by
  refine mt_I (by decide) rfl (Nat.le_of_ble_eq_true rfl) ?_
  intro p e s m args below meth c A Q C h0 hr
  replace C : vv_X p s m args meth c D (tysW cy) A 3 cX6_isVouched RX6 wsX6_isVouched := C
  replace hF : ((bn_ (fX6_isVisit x1 x2 σ) fun r1 => (if r1 = 0 then some 0 else (gd_ ((10 * x1) + x2) 100 fun j2 => (if (sM σ 19 j2) = 0 then some 1 else some 0)))) : Option Int32) = some res := hF
  refine vv_lv [0, 1, 2] (lv' := [(0, .ref (ad 29)), (1, .int x1), (2, .int x2)]) rfl ?_
  refine vv_aload_n C dX6_isVouched_0 0 rfl ?_
  refine vv_iload_n C dX6_isVouched_1 1 rfl ?_
  refine vv_iload_n C dX6_isVouched_2 2 rfl ?_
  refine vv_callVi (fun r1 => r1) (fun r1 => (wM cy ad σ)) C en_ok h0 [.int x1, .int x2] [] 2 hF (fun r1 hr1 => kX6_isVisit l D cy ad x1 x2 σ r1  hr1) gX6_isVouched_X6_isVisit rfl rfl rfl (by decide +kernel) ⟨by decide, by decide⟩ 25 (wM_g29 cy ad _) rfl rfl rfl (Nat.le_of_ble_eq_true rfl) dX6_isVouched_3 ⟨by decide, by decide⟩ (fun r1 hqr1 hF => ?_)
  refine vv_if_eq (tgt := 27) C dX6_isVouched_6 (by decide) hF (fun c4 hF => ?_) (fun c4 hF => ?_)
  · refine vv_iconst (v := 0) C dX6_isVouched_27 (by decide) ?_
    cases hF
    exact hr _ _ dX6_isVouched_28 nb_Z0
  · refine vv_aload_n C dX6_isVouched_9 0 rfl ?_
    refine vv_get (v := .ref (ad 19)) C (hi_X6_isVouched_X6) 25 (wM_g29 cy ad _) rfl 19 (by decide) (List.mem_of_getElem? (i := 1) rfl) rfl dX6_isVouched_10 ?_
    refine vv_bipush (v := 10) C dX6_isVouched_13 (by decide) ?_
    refine vv_iload_n C dX6_isVouched_15 1 rfl ?_
    refine vv_imul C dX6_isVouched_16 ?_
    refine vv_iload_n C dX6_isVouched_17 2 rfl ?_
    refine vv_iadd C dX6_isVouched_18 ?_
    refine vv_iald C 15 0 (wM_g19 cy ad _) (tysW_0 cy) hF dX6_isVouched_19 (fun j2 hj2 hF => ?_)
    refine vv_if_ne (tgt := 27) C dX6_isVouched_20 (by decide) hF (fun c3 hF => ?_) (fun c3 hF => ?_)
    · refine vv_iconst (v := 0) C dX6_isVouched_27 (by decide) ?_
      cases hF
      exact hr _ _ dX6_isVouched_28 nb_Z0
    · refine vv_iconst (v := 1) C dX6_isVouched_23 (by decide) ?_
      refine vv_goto (tgt := 28) C dX6_isVouched_24 (by decide) ?_
      cases hF
      exact hr _ _ dX6_isVouched_28 nb_Z1
/-! X6_vouches -/
abbrev rmX6_vouches : Room := { frames := 2, cells := 0, slots := 0, locals := 44 }
def fX6_vouches_16 (σ : St_)  : Option Int32 := some (-1)
def fX6_vouches (x1 : Int32) (x2 : Int32) (σ : St_) : Option Int32 := (bn_ (fX6_isFarm x1 σ) fun r1 => (if r1 = 0 then fX6_vouches_16 σ   else (bn_ (fX6_isFarm x2 σ) fun r2 => (if r2 = 0 then fX6_vouches_16 σ   else (bn_ (fX6_isVouched x1 x2 σ) fun r3 => (if r3 = 0 then some 0 else some 1))))))
set_option maxHeartbeats 4000000 in
set_option maxRecDepth 20000 in
theorem vX6_vouches_16 {p : Program} {l : Launch} {e : Env} {s : State} {m : MethodId} {args : Array Value} {below : List Frame} {meth : Method} {c : Code} {D : va_G} {A : Nat → Prop} {Q : State → Prop} {cy : Nat → ClassId} {ad : Nat → Nat} {σ : St_} {res : Int32} (C : vv_X p s m args meth c D (tysW cy) A 3 cX6_vouches RX6 wsX6_vouches) (h0 : en_T A s) (hr : rt_I p l e rmX6_vouches s m args below meth c D A 3 Q cX6_vouches .int (wM cy ad σ) res) : fX6_vouches_16 σ  = some res → vv_ p l e rmX6_vouches s m args below meth c D A 3 Q 0 0 (wM cy ad σ) [] 16 [] := by
  intro  hF
  replace hF : (some (-1) : Option Int32) = some res := hF
  refine vv_iconst (v := (-1)) C dX6_vouches_16 (by decide) ?_
  refine vv_goto (tgt := 34) C dX6_vouches_17 (by decide) ?_
  cases hF
  exact hr _ _ dX6_vouches_34 rfl
set_option maxHeartbeats 4000000 in
set_option maxRecDepth 20000 in
theorem kX6_vouches (l : Launch) (D : va_G) (cy : Nat → ClassId) (ad : Nat → Nat) (x1 : Int32) (x2 : Int32) (σ : St_) (res : Int32)  (hF : fX6_vouches x1 x2 σ = some res) : ct_I l D (tysW cy) en_T yX6_vouches wsX6_vouches rmX6_vouches [.ref (ad 29), .int x1, .int x2] (wM cy ad σ) res (wM cy ad σ) := by
  refine mt_I (by decide) rfl (Nat.le_of_ble_eq_true rfl) ?_
  intro p e s m args below meth c A Q C h0 hr
  replace C : vv_X p s m args meth c D (tysW cy) A 3 cX6_vouches RX6 wsX6_vouches := C
  replace hF : ((bn_ (fX6_isFarm x1 σ) fun r1 => (if r1 = 0 then fX6_vouches_16 σ   else (bn_ (fX6_isFarm x2 σ) fun r2 => (if r2 = 0 then fX6_vouches_16 σ   else (bn_ (fX6_isVouched x1 x2 σ) fun r3 => (if r3 = 0 then some 0 else some 1)))))) : Option Int32) = some res := hF
  refine vv_lv [0, 1, 2] (lv' := [(0, .ref (ad 29)), (1, .int x1), (2, .int x2)]) rfl ?_
  refine vv_aload_n C dX6_vouches_0 0 rfl ?_
  refine vv_iload_n C dX6_vouches_1 1 rfl ?_
  refine vv_callVi (fun r1 => r1) (fun r1 => (wM cy ad σ)) C en_ok h0 [.int x1] [] 1 hF (fun r1 hr1 => kX6_isFarm l D cy ad x1 σ r1  hr1) gX6_vouches_X6_isFarm rfl rfl rfl (by decide +kernel) ⟨by decide, by decide⟩ 25 (wM_g29 cy ad _) rfl rfl rfl (Nat.le_of_ble_eq_true rfl) dX6_vouches_2 ⟨by decide, by decide⟩ (fun r1 hqr1 hF => ?_)
  refine vv_if_eq (tgt := 16) C dX6_vouches_5 (by decide) hF (fun c6 hF => ?_) (fun c6 hF => ?_)
  · refine vv_lv [] rfl ?_
    exact vX6_vouches_16 C h0 hr    hF
  · refine vv_aload_n C dX6_vouches_8 0 rfl ?_
    refine vv_iload_n C dX6_vouches_9 2 rfl ?_
    refine vv_callVi (fun r2 => r2) (fun r2 => (wM cy ad σ)) C en_ok h0 [.int x2] [] 1 hF (fun r2 hr2 => kX6_isFarm l D cy ad x2 σ r2  hr2) gX6_vouches_X6_isFarm rfl rfl rfl (by decide +kernel) ⟨by decide, by decide⟩ 25 (wM_g29 cy ad _) rfl rfl rfl (Nat.le_of_ble_eq_true rfl) dX6_vouches_10 ⟨by decide, by decide⟩ (fun r2 hqr2 hF => ?_)
    refine vv_if_ne (tgt := 20) C dX6_vouches_13 (by decide) hF (fun c5 hF => ?_) (fun c5 hF => ?_)
    · refine vv_aload_n C dX6_vouches_20 0 rfl ?_
      refine vv_iload_n C dX6_vouches_21 1 rfl ?_
      refine vv_iload_n C dX6_vouches_22 2 rfl ?_
      refine vv_callVi (fun r3 => r3) (fun r3 => (wM cy ad σ)) C en_ok h0 [.int x1, .int x2] [] 2 hF (fun r3 hr3 => kX6_isVouched l D cy ad x1 x2 σ r3  hr3) gX6_vouches_X6_isVouched rfl rfl rfl (by decide +kernel) ⟨by decide, by decide⟩ 25 (wM_g29 cy ad _) rfl rfl rfl (Nat.le_of_ble_eq_true rfl) dX6_vouches_23 ⟨by decide, by decide⟩ (fun r3 hqr3 hF => ?_)
      refine vv_if_eq (tgt := 33) C dX6_vouches_26 (by decide) hF (fun c4 hF => ?_) (fun c4 hF => ?_)
      · refine vv_iconst (v := 0) C dX6_vouches_33 (by decide) ?_
        cases hF
        exact hr _ _ dX6_vouches_34 rfl
      · refine vv_iconst (v := 1) C dX6_vouches_29 (by decide) ?_
        refine vv_goto (tgt := 34) C dX6_vouches_30 (by decide) ?_
        cases hF
        exact hr _ _ dX6_vouches_34 rfl
    · refine vv_lv [] rfl ?_
      exact vX6_vouches_16 C h0 hr    hF
/-! X6_trust -/
abbrev rmX6_trust : Room := { frames := 2, cells := 0, slots := 0, locals := 44 }
theorem hi_X6_trust_X6 : ∀ w ∈ wsX60, w ∈ wsX6_trust := fun w h => List.mem_cons_of_mem _ (List.mem_append_right _ h)
def fX6_trust_43 (k20 : Int32 → Int32 → Int32 → St_ → Option (Int32 × St_)) (x1 : Int32) (x2 : Int32) (x3 : Int32) (t0 : Int32) (t1 : Int32) (σ : St_) : Option (Int32 × St_) := (gd_ t1 10 fun j7 => k20 x1 x2 (x3 + 1) (uM σ 28 j7 t0))
def fX6_trust_130 (k52 : Int32 → Int32 → St_ → Option (Int32 × St_)) (k63 : Int32 → Int32 → Int32 → St_ → Option (Int32 × St_)) (k91 : Int32 → Int32 → Int32 → Int32 → St_ → Option (Int32 × St_)) (x2 : Int32) (x3 : Int32) (x4 : Int32) (x5 : Int32) (σ : St_) : Option (Int32 × St_) := k91 x2 x3 x4 (x5 + 1) σ
def fX6_trust_136 (k52 : Int32 → Int32 → St_ → Option (Int32 × St_)) (k63 : Int32 → Int32 → Int32 → St_ → Option (Int32 × St_)) (x2 : Int32) (x3 : Int32) (x4 : Int32) (σ : St_) : Option (Int32 × St_) := k63 x2 x3 (x4 + 1) σ
def fX6_trust_91 (k52 : Int32 → Int32 → St_ → Option (Int32 × St_)) (k63 : Int32 → Int32 → Int32 → St_ → Option (Int32 × St_)) : Nat → Int32 → Int32 → Int32 → Int32 → St_ → Option (Int32 × St_)
  | 0, _, _, _, _, _ => none
  | n + 1, x2, x3, x4, x5, σ => (if (sS σ 2) ≤ x5 then fX6_trust_136 (k52) (k63) x2 x3 x4 σ else (gd_ x5 10 fun j13 => (if (sM σ 28 j13) = (-1) then (bn_ (fX6_isVouched x4 x5 σ) fun r14 => (if r14 = 0 then fX6_trust_130 (k52) (k63) (fX6_trust_91 k52 k63 n) x2 x3 x4 x5 σ else (gd_ x5 10 fun j15 => fX6_trust_130 (k52) (k63) (fX6_trust_91 k52 k63 n) x2 x3 x4 x5 (uM σ 28 j15 x3)))) else fX6_trust_130 (k52) (k63) (fX6_trust_91 k52 k63 n) x2 x3 x4 x5 σ)))
def fX6_trust_142 (k52 : Int32 → Int32 → St_ → Option (Int32 × St_)) (x2 : Int32) (x3 : Int32) (σ : St_) : Option (Int32 × St_) := k52 x2 (x3 + 1) σ
def fX6_trust_63 (k52 : Int32 → Int32 → St_ → Option (Int32 × St_)) : Nat → Int32 → Int32 → Int32 → St_ → Option (Int32 × St_)
  | 0, _, _, _, _ => none
  | n + 1, x2, x3, x4, σ => (if (sS σ 2) ≤ x4 then fX6_trust_142 (k52) x2 x3 σ else (gd_ x4 10 fun j10 => (if (sM σ 28 j10) = (x3 - 1) then fX6_trust_91 (k52) (fX6_trust_63 k52 n) FU_ x2 x3 x4 0 σ else fX6_trust_136 (k52) (fX6_trust_63 k52 n) x2 x3 x4 σ)))
def fX6_trust_148 (x2 : Int32) (σ : St_) : Option (Int32 × St_) := (gd_ x2 10 fun j9 => some ((sM σ 28 j9), σ))
def fX6_trust_52 : Nat → Int32 → Int32 → St_ → Option (Int32 × St_)
  | 0, _, _, _ => none
  | n + 1, x2, x3, σ => (if (sS σ 2) ≤ x3 then fX6_trust_148  x2 σ else fX6_trust_63 (fX6_trust_52  n) FU_ x2 x3 0 σ)
def fX6_trust_50 (x2 : Int32) (σ : St_) : Option (Int32 × St_) := fX6_trust_52  FU_ x2 1 σ
def fX6_trust_20 : Nat → Int32 → Int32 → Int32 → St_ → Option (Int32 × St_)
  | 0, _, _, _, _ => none
  | n + 1, x1, x2, x3, σ => (if (sS σ 2) ≤ x3 then fX6_trust_50  x2 σ else (if x3 = x1 then fX6_trust_43 (fX6_trust_20  n) x1 x2 x3 0 x3 σ else fX6_trust_43 (fX6_trust_20  n) x1 x2 x3 (-1) x3 σ))
def fX6_trust (x1 : Int32) (x2 : Int32) (σ : St_) : Option (Int32 × St_) := (bn_ (fX6_isFarm x1 σ) fun r1 => (if r1 = 0 then some ((-1), σ) else (bn_ (fX6_isFarm x2 σ) fun r2 => (if r2 = 0 then some ((-1), σ) else fX6_trust_20  FU_ x1 x2 0 σ))))
set_option maxHeartbeats 4000000 in
set_option maxRecDepth 20000 in
theorem vX6_trust_43 {p : Program} {l : Launch} {e : Env} {s : State} {m : MethodId} {args : Array Value} {below : List Frame} {meth : Method} {c : Code} {D : va_G} {A : Nat → Prop} {Q : State → Prop} {cy : Nat → ClassId} {ad : Nat → Nat} {k20 : Int32 → Int32 → Int32 → St_ → Option (Int32 × St_)} {res : Int32 × St_} (C : vv_X p s m args meth c D (tysW cy) A 6 cX6_trust RX6 wsX6_trust) (h0 : en_T A s) (hr : rt_I p l e rmX6_trust s m args below meth c D A 6 Q cX6_trust .int (wM cy ad res.2) res.1) (hk20 : ∀ (x1 : Int32) (x2 : Int32) (x3 : Int32) (σ : St_), k20 x1 x2 x3 σ = some res → vv_ p l e rmX6_trust s m args below meth c D A 6 Q 0 0 (wM cy ad σ) [(0, .ref (ad 29)), (1, .int x1), (2, .int x2), (3, .int x3)] 20 []) : ∀ (x1 : Int32) (x2 : Int32) (x3 : Int32) (t0 : Int32) (t1 : Int32) (σ : St_), fX6_trust_43 k20 x1 x2 x3 t0 t1 σ = some res → vv_ p l e rmX6_trust s m args below meth c D A 6 Q 0 0 (wM cy ad σ) [(0, .ref (ad 29)), (1, .int x1), (2, .int x2), (3, .int x3)] 43 [.int t0, .int t1, .ref (ad 28)] := by
  intro x1 x2 x3 t0 t1 σ hF
  replace hF : ((gd_ t1 10 fun j7 => k20 x1 x2 (x3 + 1) (uM σ 28 j7 t0)) : Option (Int32 × St_)) = some res := hF
  refine vv_iast (w' := fun j7 => (wM cy ad (uM σ 28 j7 t0))) C 24 0 (wM_g28 cy ad _) (tysW_0 cy) hF dX6_trust_43 (fun _ => wM_a28 _ _ _ _) (fun j7 hj7 hF => ?_)
  refine vv_iinc (q := 3) (v := x3 + 1) (lv' := [(3, .int (x3 + 1)), (0, .ref (ad 29)), (1, .int x1), (2, .int x2)]) C dX6_trust_44 rfl rfl (by decide) rfl ?_
  refine vv_goto (tgt := 20) C dX6_trust_47 (by decide) ?_
  refine vv_lv [1, 2, 3, 0] rfl ?_
  exact hk20 x1 x2 (x3 + 1) (uM σ 28 j7 t0)  hF
set_option maxHeartbeats 4000000 in
set_option maxRecDepth 20000 in
theorem vX6_trust_130 {p : Program} {l : Launch} {e : Env} {s : State} {m : MethodId} {args : Array Value} {below : List Frame} {meth : Method} {c : Code} {D : va_G} {A : Nat → Prop} {Q : State → Prop} {cy : Nat → ClassId} {ad : Nat → Nat} {k52 : Int32 → Int32 → St_ → Option (Int32 × St_)} {k63 : Int32 → Int32 → Int32 → St_ → Option (Int32 × St_)} {k91 : Int32 → Int32 → Int32 → Int32 → St_ → Option (Int32 × St_)} {res : Int32 × St_} (C : vv_X p s m args meth c D (tysW cy) A 6 cX6_trust RX6 wsX6_trust) (h0 : en_T A s) (hr : rt_I p l e rmX6_trust s m args below meth c D A 6 Q cX6_trust .int (wM cy ad res.2) res.1) (hk52 : ∀ (x2 : Int32) (x3 : Int32) (σ : St_), k52 x2 x3 σ = some res → vv_ p l e rmX6_trust s m args below meth c D A 6 Q 0 0 (wM cy ad σ) [(0, .ref (ad 29)), (2, .int x2), (3, .int x3)] 52 []) (hk63 : ∀ (x2 : Int32) (x3 : Int32) (x4 : Int32) (σ : St_), k63 x2 x3 x4 σ = some res → vv_ p l e rmX6_trust s m args below meth c D A 6 Q 0 0 (wM cy ad σ) [(0, .ref (ad 29)), (2, .int x2), (3, .int x3), (4, .int x4)] 63 []) (hk91 : ∀ (x2 : Int32) (x3 : Int32) (x4 : Int32) (x5 : Int32) (σ : St_), k91 x2 x3 x4 x5 σ = some res → vv_ p l e rmX6_trust s m args below meth c D A 6 Q 0 0 (wM cy ad σ) [(0, .ref (ad 29)), (2, .int x2), (3, .int x3), (4, .int x4), (5, .int x5)] 91 []) : ∀ (x2 : Int32) (x3 : Int32) (x4 : Int32) (x5 : Int32) (σ : St_), fX6_trust_130 k52 k63 k91 x2 x3 x4 x5 σ = some res → vv_ p l e rmX6_trust s m args below meth c D A 6 Q 0 0 (wM cy ad σ) [(0, .ref (ad 29)), (2, .int x2), (3, .int x3), (4, .int x4), (5, .int x5)] 130 [] := by
  intro x2 x3 x4 x5 σ hF
  replace hF : (k91 x2 x3 x4 (x5 + 1) σ : Option (Int32 × St_)) = some res := hF
  refine vv_iinc (q := 4) (v := x5 + 1) (lv' := [(5, .int (x5 + 1)), (0, .ref (ad 29)), (2, .int x2), (3, .int x3), (4, .int x4)]) C dX6_trust_130 rfl rfl (by decide) rfl ?_
  refine vv_goto (tgt := 91) C dX6_trust_133 (by decide) ?_
  refine vv_lv [1, 2, 3, 4, 0] rfl ?_
  exact hk91 x2 x3 x4 (x5 + 1) σ  hF
set_option maxHeartbeats 4000000 in
set_option maxRecDepth 20000 in
theorem vX6_trust_136 {p : Program} {l : Launch} {e : Env} {s : State} {m : MethodId} {args : Array Value} {below : List Frame} {meth : Method} {c : Code} {D : va_G} {A : Nat → Prop} {Q : State → Prop} {cy : Nat → ClassId} {ad : Nat → Nat} {k52 : Int32 → Int32 → St_ → Option (Int32 × St_)} {k63 : Int32 → Int32 → Int32 → St_ → Option (Int32 × St_)} {res : Int32 × St_} (C : vv_X p s m args meth c D (tysW cy) A 6 cX6_trust RX6 wsX6_trust) (h0 : en_T A s) (hr : rt_I p l e rmX6_trust s m args below meth c D A 6 Q cX6_trust .int (wM cy ad res.2) res.1) (hk52 : ∀ (x2 : Int32) (x3 : Int32) (σ : St_), k52 x2 x3 σ = some res → vv_ p l e rmX6_trust s m args below meth c D A 6 Q 0 0 (wM cy ad σ) [(0, .ref (ad 29)), (2, .int x2), (3, .int x3)] 52 []) (hk63 : ∀ (x2 : Int32) (x3 : Int32) (x4 : Int32) (σ : St_), k63 x2 x3 x4 σ = some res → vv_ p l e rmX6_trust s m args below meth c D A 6 Q 0 0 (wM cy ad σ) [(0, .ref (ad 29)), (2, .int x2), (3, .int x3), (4, .int x4)] 63 []) : ∀ (x2 : Int32) (x3 : Int32) (x4 : Int32) (σ : St_), fX6_trust_136 k52 k63 x2 x3 x4 σ = some res → vv_ p l e rmX6_trust s m args below meth c D A 6 Q 0 0 (wM cy ad σ) [(0, .ref (ad 29)), (2, .int x2), (3, .int x3), (4, .int x4)] 136 [] := by
  intro x2 x3 x4 σ hF
  replace hF : (k63 x2 x3 (x4 + 1) σ : Option (Int32 × St_)) = some res := hF
  refine vv_iinc (q := 3) (v := x4 + 1) (lv' := [(4, .int (x4 + 1)), (0, .ref (ad 29)), (2, .int x2), (3, .int x3)]) C dX6_trust_136 rfl rfl (by decide) rfl ?_
  refine vv_goto (tgt := 63) C dX6_trust_139 (by decide) ?_
  refine vv_lv [1, 2, 3, 0] rfl ?_
  exact hk63 x2 x3 (x4 + 1) σ  hF
set_option maxHeartbeats 4000000 in
set_option maxRecDepth 20000 in
theorem vX6_trust_91 {p : Program} {l : Launch} {e : Env} {s : State} {m : MethodId} {args : Array Value} {below : List Frame} {meth : Method} {c : Code} {D : va_G} {A : Nat → Prop} {Q : State → Prop} {cy : Nat → ClassId} {ad : Nat → Nat} {k52 : Int32 → Int32 → St_ → Option (Int32 × St_)} {k63 : Int32 → Int32 → Int32 → St_ → Option (Int32 × St_)} {res : Int32 × St_} (C : vv_X p s m args meth c D (tysW cy) A 6 cX6_trust RX6 wsX6_trust) (h0 : en_T A s) (hr : rt_I p l e rmX6_trust s m args below meth c D A 6 Q cX6_trust .int (wM cy ad res.2) res.1) (hk52 : ∀ (x2 : Int32) (x3 : Int32) (σ : St_), k52 x2 x3 σ = some res → vv_ p l e rmX6_trust s m args below meth c D A 6 Q 0 0 (wM cy ad σ) [(0, .ref (ad 29)), (2, .int x2), (3, .int x3)] 52 []) (hk63 : ∀ (x2 : Int32) (x3 : Int32) (x4 : Int32) (σ : St_), k63 x2 x3 x4 σ = some res → vv_ p l e rmX6_trust s m args below meth c D A 6 Q 0 0 (wM cy ad σ) [(0, .ref (ad 29)), (2, .int x2), (3, .int x3), (4, .int x4)] 63 []) : ∀ (n : Nat) (x2 : Int32) (x3 : Int32) (x4 : Int32) (x5 : Int32) (σ : St_), fX6_trust_91 k52 k63 n x2 x3 x4 x5 σ = some res → vv_ p l e rmX6_trust s m args below meth c D A 6 Q 0 0 (wM cy ad σ) [(0, .ref (ad 29)), (2, .int x2), (3, .int x3), (4, .int x4), (5, .int x5)] 91 [] := by
  intro n
  induction n with
  | zero =>
    intro x2 x3 x4 x5 σ hF
    cases (show none = some res from hF)
  | succ n ih =>
    intro x2 x3 x4 x5 σ hF
    replace hF : ((if (sS σ 2) ≤ x5 then fX6_trust_136 (k52) (k63) x2 x3 x4 σ else (gd_ x5 10 fun j13 => (if (sM σ 28 j13) = (-1) then (bn_ (fX6_isVouched x4 x5 σ) fun r14 => (if r14 = 0 then fX6_trust_130 (k52) (k63) (fX6_trust_91 k52 k63 n) x2 x3 x4 x5 σ else (gd_ x5 10 fun j15 => fX6_trust_130 (k52) (k63) (fX6_trust_91 k52 k63 n) x2 x3 x4 x5 (uM σ 28 j15 x3)))) else fX6_trust_130 (k52) (k63) (fX6_trust_91 k52 k63 n) x2 x3 x4 x5 σ))) : Option (Int32 × St_)) = some res := hF
    refine vv_iload C dX6_trust_91 4 rfl ?_
    refine vv_aload_n C dX6_trust_93 0 rfl ?_
    refine vv_get (v := .int (sS σ 2)) C (hi_X6_trust_X6) 25 (wM_g29 cy ad _) rfl 2 (by decide) (List.mem_of_getElem? (i := 1) rfl) rfl dX6_trust_94 ?_
    refine vv_icmp_ge (tgt := 136) C dX6_trust_97 (by decide) hF (fun c18 hF => ?_) (fun c18 hF => ?_)
    · refine vv_lv [0, 1, 2, 3] rfl ?_
      exact vX6_trust_136 C h0 hr (hk52) (hk63) x2 x3 x4 σ  hF
    · refine vv_aload_n C dX6_trust_100 0 rfl ?_
      refine vv_get (v := .ref (ad 28)) C (hi_X6_trust_X6) 25 (wM_g29 cy ad _) rfl 28 (by decide) (List.mem_of_getElem? (i := 2) rfl) rfl dX6_trust_101 ?_
      refine vv_iload C dX6_trust_104 4 rfl ?_
      refine vv_iald C 24 0 (wM_g28 cy ad _) (tysW_0 cy) hF dX6_trust_106 (fun j13 hj13 hF => ?_)
      refine vv_iconst (v := (-1)) C dX6_trust_107 (by decide) ?_
      refine vv_icmp_ne (tgt := 130) C dX6_trust_108 (by decide) hF (fun c17 hF => ?_) (fun c17 hF => ?_)
      · refine vv_lv [0, 1, 2, 3, 4] rfl ?_
        exact vX6_trust_130 C h0 hr (hk52) (hk63) (ih) x2 x3 x4 x5 σ  hF
      · refine vv_aload_n C dX6_trust_111 0 rfl ?_
        refine vv_iload C dX6_trust_112 3 rfl ?_
        refine vv_iload C dX6_trust_114 4 rfl ?_
        refine vv_callVi (fun r14 => r14) (fun r14 => (wM cy ad σ)) C en_ok h0 [.int x4, .int x5] [] 2 hF (fun r14 hr14 => kX6_isVouched l D cy ad x4 x5 σ r14  hr14) gX6_trust_X6_isVouched rfl rfl rfl (by decide +kernel) ⟨by decide, by decide⟩ 25 (wM_g29 cy ad _) rfl rfl rfl (Nat.le_of_ble_eq_true rfl) dX6_trust_116 ⟨by decide, by decide⟩ (fun r14 hqr14 hF => ?_)
        refine vv_if_eq (tgt := 130) C dX6_trust_119 (by decide) hF (fun c16 hF => ?_) (fun c16 hF => ?_)
        · refine vv_lv [0, 1, 2, 3, 4] rfl ?_
          exact vX6_trust_130 C h0 hr (hk52) (hk63) (ih) x2 x3 x4 x5 σ  hF
        · refine vv_aload_n C dX6_trust_122 0 rfl ?_
          refine vv_get (v := .ref (ad 28)) C (hi_X6_trust_X6) 25 (wM_g29 cy ad _) rfl 28 (by decide) (List.mem_of_getElem? (i := 2) rfl) rfl dX6_trust_123 ?_
          refine vv_iload C dX6_trust_126 4 rfl ?_
          refine vv_iload_n C dX6_trust_128 2 rfl ?_
          refine vv_iast (w' := fun j15 => (wM cy ad (uM σ 28 j15 x3))) C 24 0 (wM_g28 cy ad _) (tysW_0 cy) hF dX6_trust_129 (fun _ => wM_a28 _ _ _ _) (fun j15 hj15 hF => ?_)
          refine vv_lv [0, 1, 2, 3, 4] rfl ?_
          exact vX6_trust_130 C h0 hr (hk52) (hk63) (ih) x2 x3 x4 x5 (uM σ 28 j15 x3)  hF
set_option maxHeartbeats 4000000 in
set_option maxRecDepth 20000 in
theorem vX6_trust_142 {p : Program} {l : Launch} {e : Env} {s : State} {m : MethodId} {args : Array Value} {below : List Frame} {meth : Method} {c : Code} {D : va_G} {A : Nat → Prop} {Q : State → Prop} {cy : Nat → ClassId} {ad : Nat → Nat} {k52 : Int32 → Int32 → St_ → Option (Int32 × St_)} {res : Int32 × St_} (C : vv_X p s m args meth c D (tysW cy) A 6 cX6_trust RX6 wsX6_trust) (h0 : en_T A s) (hr : rt_I p l e rmX6_trust s m args below meth c D A 6 Q cX6_trust .int (wM cy ad res.2) res.1) (hk52 : ∀ (x2 : Int32) (x3 : Int32) (σ : St_), k52 x2 x3 σ = some res → vv_ p l e rmX6_trust s m args below meth c D A 6 Q 0 0 (wM cy ad σ) [(0, .ref (ad 29)), (2, .int x2), (3, .int x3)] 52 []) : ∀ (x2 : Int32) (x3 : Int32) (σ : St_), fX6_trust_142 k52 x2 x3 σ = some res → vv_ p l e rmX6_trust s m args below meth c D A 6 Q 0 0 (wM cy ad σ) [(0, .ref (ad 29)), (2, .int x2), (3, .int x3)] 142 [] := by
  intro x2 x3 σ hF
  replace hF : (k52 x2 (x3 + 1) σ : Option (Int32 × St_)) = some res := hF
  refine vv_iinc (q := 2) (v := x3 + 1) (lv' := [(3, .int (x3 + 1)), (0, .ref (ad 29)), (2, .int x2)]) C dX6_trust_142 rfl rfl (by decide) rfl ?_
  refine vv_goto (tgt := 52) C dX6_trust_145 (by decide) ?_
  refine vv_lv [1, 2, 0] rfl ?_
  exact hk52 x2 (x3 + 1) σ  hF
set_option maxHeartbeats 4000000 in
set_option maxRecDepth 20000 in
theorem vX6_trust_63 {p : Program} {l : Launch} {e : Env} {s : State} {m : MethodId} {args : Array Value} {below : List Frame} {meth : Method} {c : Code} {D : va_G} {A : Nat → Prop} {Q : State → Prop} {cy : Nat → ClassId} {ad : Nat → Nat} {k52 : Int32 → Int32 → St_ → Option (Int32 × St_)} {res : Int32 × St_} (C : vv_X p s m args meth c D (tysW cy) A 6 cX6_trust RX6 wsX6_trust) (h0 : en_T A s) (hr : rt_I p l e rmX6_trust s m args below meth c D A 6 Q cX6_trust .int (wM cy ad res.2) res.1) (hk52 : ∀ (x2 : Int32) (x3 : Int32) (σ : St_), k52 x2 x3 σ = some res → vv_ p l e rmX6_trust s m args below meth c D A 6 Q 0 0 (wM cy ad σ) [(0, .ref (ad 29)), (2, .int x2), (3, .int x3)] 52 []) : ∀ (n : Nat) (x2 : Int32) (x3 : Int32) (x4 : Int32) (σ : St_), fX6_trust_63 k52 n x2 x3 x4 σ = some res → vv_ p l e rmX6_trust s m args below meth c D A 6 Q 0 0 (wM cy ad σ) [(0, .ref (ad 29)), (2, .int x2), (3, .int x3), (4, .int x4)] 63 [] := by
  intro n
  induction n with
  | zero =>
    intro x2 x3 x4 σ hF
    cases (show none = some res from hF)
  | succ n ih =>
    intro x2 x3 x4 σ hF
    replace hF : ((if (sS σ 2) ≤ x4 then fX6_trust_142 (k52) x2 x3 σ else (gd_ x4 10 fun j10 => (if (sM σ 28 j10) = (x3 - 1) then fX6_trust_91 (k52) (fX6_trust_63 k52 n) FU_ x2 x3 x4 0 σ else fX6_trust_136 (k52) (fX6_trust_63 k52 n) x2 x3 x4 σ))) : Option (Int32 × St_)) = some res := hF
    refine vv_iload C dX6_trust_63 3 rfl ?_
    refine vv_aload_n C dX6_trust_65 0 rfl ?_
    refine vv_get (v := .int (sS σ 2)) C (hi_X6_trust_X6) 25 (wM_g29 cy ad _) rfl 2 (by decide) (List.mem_of_getElem? (i := 1) rfl) rfl dX6_trust_66 ?_
    refine vv_icmp_ge (tgt := 142) C dX6_trust_69 (by decide) hF (fun c12 hF => ?_) (fun c12 hF => ?_)
    · refine vv_lv [0, 1, 2] rfl ?_
      exact vX6_trust_142 C h0 hr (hk52) x2 x3 σ  hF
    · refine vv_aload_n C dX6_trust_72 0 rfl ?_
      refine vv_get (v := .ref (ad 28)) C (hi_X6_trust_X6) 25 (wM_g29 cy ad _) rfl 28 (by decide) (List.mem_of_getElem? (i := 2) rfl) rfl dX6_trust_73 ?_
      refine vv_iload C dX6_trust_76 3 rfl ?_
      refine vv_iald C 24 0 (wM_g28 cy ad _) (tysW_0 cy) hF dX6_trust_78 (fun j10 hj10 hF => ?_)
      refine vv_iload_n C dX6_trust_79 2 rfl ?_
      refine vv_iconst (v := 1) C dX6_trust_80 (by decide) ?_
      refine vv_isub C dX6_trust_81 ?_
      refine vv_icmp_eq (tgt := 88) C dX6_trust_82 (by decide) hF (fun c11 hF => ?_) (fun c11 hF => ?_)
      · refine vv_iconst (v := 0) C dX6_trust_88 (by decide) ?_
        refine vv_istore (lv' := [(5, .int 0), (0, .ref (ad 29)), (2, .int x2), (3, .int x3), (4, .int x4)]) C dX6_trust_89 (by decide) rfl ?_
        refine vv_lv [1, 2, 3, 4, 0] rfl ?_
        exact vX6_trust_91 C h0 hr (hk52) (ih) FU_ x2 x3 x4 0 σ  hF
      · refine vv_goto (tgt := 136) C dX6_trust_85 (by decide) ?_
        refine vv_lv [0, 1, 2, 3] rfl ?_
        exact vX6_trust_136 C h0 hr (hk52) (ih) x2 x3 x4 σ  hF
set_option maxHeartbeats 4000000 in
set_option maxRecDepth 20000 in
theorem vX6_trust_148 {p : Program} {l : Launch} {e : Env} {s : State} {m : MethodId} {args : Array Value} {below : List Frame} {meth : Method} {c : Code} {D : va_G} {A : Nat → Prop} {Q : State → Prop} {cy : Nat → ClassId} {ad : Nat → Nat} {res : Int32 × St_} (C : vv_X p s m args meth c D (tysW cy) A 6 cX6_trust RX6 wsX6_trust) (h0 : en_T A s) (hr : rt_I p l e rmX6_trust s m args below meth c D A 6 Q cX6_trust .int (wM cy ad res.2) res.1) : ∀ (x2 : Int32) (σ : St_), fX6_trust_148  x2 σ = some res → vv_ p l e rmX6_trust s m args below meth c D A 6 Q 0 0 (wM cy ad σ) [(0, .ref (ad 29)), (2, .int x2)] 148 [] := by
  intro x2 σ hF
  replace hF : ((gd_ x2 10 fun j9 => some ((sM σ 28 j9), σ)) : Option (Int32 × St_)) = some res := hF
  refine vv_aload_n C dX6_trust_148 0 rfl ?_
  refine vv_get (v := .ref (ad 28)) C (hi_X6_trust_X6) 25 (wM_g29 cy ad _) rfl 28 (by decide) (List.mem_of_getElem? (i := 2) rfl) rfl dX6_trust_149 ?_
  refine vv_iload_n C dX6_trust_152 1 rfl ?_
  refine vv_iald C 24 0 (wM_g28 cy ad _) (tysW_0 cy) hF dX6_trust_153 (fun j9 hj9 hF => ?_)
  cases hF
  exact hr _ _ dX6_trust_154 rfl
set_option maxHeartbeats 4000000 in
set_option maxRecDepth 20000 in
theorem vX6_trust_52 {p : Program} {l : Launch} {e : Env} {s : State} {m : MethodId} {args : Array Value} {below : List Frame} {meth : Method} {c : Code} {D : va_G} {A : Nat → Prop} {Q : State → Prop} {cy : Nat → ClassId} {ad : Nat → Nat} {res : Int32 × St_} (C : vv_X p s m args meth c D (tysW cy) A 6 cX6_trust RX6 wsX6_trust) (h0 : en_T A s) (hr : rt_I p l e rmX6_trust s m args below meth c D A 6 Q cX6_trust .int (wM cy ad res.2) res.1) : ∀ (n : Nat) (x2 : Int32) (x3 : Int32) (σ : St_), fX6_trust_52  n x2 x3 σ = some res → vv_ p l e rmX6_trust s m args below meth c D A 6 Q 0 0 (wM cy ad σ) [(0, .ref (ad 29)), (2, .int x2), (3, .int x3)] 52 [] := by
  intro n
  induction n with
  | zero =>
    intro x2 x3 σ hF
    cases (show none = some res from hF)
  | succ n ih =>
    intro x2 x3 σ hF
    replace hF : ((if (sS σ 2) ≤ x3 then fX6_trust_148  x2 σ else fX6_trust_63 (fX6_trust_52  n) FU_ x2 x3 0 σ) : Option (Int32 × St_)) = some res := hF
    refine vv_iload_n C dX6_trust_52 2 rfl ?_
    refine vv_aload_n C dX6_trust_53 0 rfl ?_
    refine vv_get (v := .int (sS σ 2)) C (hi_X6_trust_X6) 25 (wM_g29 cy ad _) rfl 2 (by decide) (List.mem_of_getElem? (i := 1) rfl) rfl dX6_trust_54 ?_
    refine vv_icmp_ge (tgt := 148) C dX6_trust_57 (by decide) hF (fun c8 hF => ?_) (fun c8 hF => ?_)
    · refine vv_lv [0, 1] rfl ?_
      exact vX6_trust_148 C h0 hr  x2 σ  hF
    · refine vv_iconst (v := 0) C dX6_trust_60 (by decide) ?_
      refine vv_istore (lv' := [(4, .int 0), (0, .ref (ad 29)), (2, .int x2), (3, .int x3)]) C dX6_trust_61 (by decide) rfl ?_
      refine vv_lv [1, 2, 3, 0] rfl ?_
      exact vX6_trust_63 C h0 hr (ih) FU_ x2 x3 0 σ  hF
set_option maxHeartbeats 4000000 in
set_option maxRecDepth 20000 in
theorem vX6_trust_50 {p : Program} {l : Launch} {e : Env} {s : State} {m : MethodId} {args : Array Value} {below : List Frame} {meth : Method} {c : Code} {D : va_G} {A : Nat → Prop} {Q : State → Prop} {cy : Nat → ClassId} {ad : Nat → Nat} {res : Int32 × St_} (C : vv_X p s m args meth c D (tysW cy) A 6 cX6_trust RX6 wsX6_trust) (h0 : en_T A s) (hr : rt_I p l e rmX6_trust s m args below meth c D A 6 Q cX6_trust .int (wM cy ad res.2) res.1) : ∀ (x2 : Int32) (σ : St_), fX6_trust_50  x2 σ = some res → vv_ p l e rmX6_trust s m args below meth c D A 6 Q 0 0 (wM cy ad σ) [(0, .ref (ad 29)), (2, .int x2)] 50 [] := by
  intro x2 σ hF
  replace hF : (fX6_trust_52  FU_ x2 1 σ : Option (Int32 × St_)) = some res := hF
  refine vv_iconst (v := 1) C dX6_trust_50 (by decide) ?_
  refine vv_istore_n (lv' := [(3, .int 1), (0, .ref (ad 29)), (2, .int x2)]) C dX6_trust_51 (by decide) rfl ?_
  refine vv_lv [1, 2, 0] rfl ?_
  exact vX6_trust_52 C h0 hr  FU_ x2 1 σ  hF
set_option maxHeartbeats 4000000 in
set_option maxRecDepth 20000 in
theorem vX6_trust_20 {p : Program} {l : Launch} {e : Env} {s : State} {m : MethodId} {args : Array Value} {below : List Frame} {meth : Method} {c : Code} {D : va_G} {A : Nat → Prop} {Q : State → Prop} {cy : Nat → ClassId} {ad : Nat → Nat} {res : Int32 × St_} (C : vv_X p s m args meth c D (tysW cy) A 6 cX6_trust RX6 wsX6_trust) (h0 : en_T A s) (hr : rt_I p l e rmX6_trust s m args below meth c D A 6 Q cX6_trust .int (wM cy ad res.2) res.1) : ∀ (n : Nat) (x1 : Int32) (x2 : Int32) (x3 : Int32) (σ : St_), fX6_trust_20  n x1 x2 x3 σ = some res → vv_ p l e rmX6_trust s m args below meth c D A 6 Q 0 0 (wM cy ad σ) [(0, .ref (ad 29)), (1, .int x1), (2, .int x2), (3, .int x3)] 20 [] := by
  intro n
  induction n with
  | zero =>
    intro x1 x2 x3 σ hF
    cases (show none = some res from hF)
  | succ n ih =>
    intro x1 x2 x3 σ hF
    replace hF : ((if (sS σ 2) ≤ x3 then fX6_trust_50  x2 σ else (if x3 = x1 then fX6_trust_43 (fX6_trust_20  n) x1 x2 x3 0 x3 σ else fX6_trust_43 (fX6_trust_20  n) x1 x2 x3 (-1) x3 σ)) : Option (Int32 × St_)) = some res := hF
    refine vv_iload_n C dX6_trust_20 3 rfl ?_
    refine vv_aload_n C dX6_trust_21 0 rfl ?_
    refine vv_get (v := .int (sS σ 2)) C (hi_X6_trust_X6) 25 (wM_g29 cy ad _) rfl 2 (by decide) (List.mem_of_getElem? (i := 1) rfl) rfl dX6_trust_22 ?_
    refine vv_icmp_ge (tgt := 50) C dX6_trust_25 (by decide) hF (fun c6 hF => ?_) (fun c6 hF => ?_)
    · refine vv_lv [0, 2] rfl ?_
      exact vX6_trust_50 C h0 hr  x2 σ  hF
    · refine vv_aload_n C dX6_trust_28 0 rfl ?_
      refine vv_get (v := .ref (ad 28)) C (hi_X6_trust_X6) 25 (wM_g29 cy ad _) rfl 28 (by decide) (List.mem_of_getElem? (i := 2) rfl) rfl dX6_trust_29 ?_
      refine vv_iload_n C dX6_trust_32 3 rfl ?_
      refine vv_iload_n C dX6_trust_33 3 rfl ?_
      refine vv_iload_n C dX6_trust_34 1 rfl ?_
      refine vv_icmp_ne (tgt := 42) C dX6_trust_35 (by decide) hF (fun c5 hF => ?_) (fun c5 hF => ?_)
      · refine vv_iconst (v := (-1)) C dX6_trust_42 (by decide) ?_
        refine vv_lv [0, 1, 2, 3] rfl ?_
        exact vX6_trust_43 C h0 hr (ih) x1 x2 x3 (-1) x3 σ  hF
      · refine vv_iconst (v := 0) C dX6_trust_38 (by decide) ?_
        refine vv_goto (tgt := 43) C dX6_trust_39 (by decide) ?_
        refine vv_lv [0, 1, 2, 3] rfl ?_
        exact vX6_trust_43 C h0 hr (ih) x1 x2 x3 0 x3 σ  hF
set_option maxHeartbeats 4000000 in
set_option maxRecDepth 20000 in
theorem kX6_trust (l : Launch) (D : va_G) (cy : Nat → ClassId) (ad : Nat → Nat) (x1 : Int32) (x2 : Int32) (σ : St_) (res : Int32 × St_)  (hF : fX6_trust x1 x2 σ = some res) : ct_I l D (tysW cy) en_T yX6_trust wsX6_trust rmX6_trust [.ref (ad 29), .int x1, .int x2] (wM cy ad σ) res.1 (wM cy ad res.2) := by
  refine mt_I (by decide) rfl (Nat.le_of_ble_eq_true rfl) ?_
  intro p e s m args below meth c A Q C h0 hr
  replace C : vv_X p s m args meth c D (tysW cy) A 6 cX6_trust RX6 wsX6_trust := C
  replace hF : ((bn_ (fX6_isFarm x1 σ) fun r1 => (if r1 = 0 then some ((-1), σ) else (bn_ (fX6_isFarm x2 σ) fun r2 => (if r2 = 0 then some ((-1), σ) else fX6_trust_20  FU_ x1 x2 0 σ)))) : Option (Int32 × St_)) = some res := hF
  refine vv_lv [0, 1, 2] (lv' := [(0, .ref (ad 29)), (1, .int x1), (2, .int x2)]) rfl ?_
  refine vv_aload_n C dX6_trust_0 0 rfl ?_
  refine vv_iload_n C dX6_trust_1 1 rfl ?_
  refine vv_callVi (fun r1 => r1) (fun r1 => (wM cy ad σ)) C en_ok h0 [.int x1] [] 1 hF (fun r1 hr1 => kX6_isFarm l D cy ad x1 σ r1  hr1) gX6_trust_X6_isFarm rfl rfl rfl (by decide +kernel) ⟨by decide, by decide⟩ 25 (wM_g29 cy ad _) rfl rfl rfl (Nat.le_of_ble_eq_true rfl) dX6_trust_2 ⟨by decide, by decide⟩ (fun r1 hqr1 hF => ?_)
  refine vv_if_eq (tgt := 16) C dX6_trust_5 (by decide) hF (fun c4 hF => ?_) (fun c4 hF => ?_)
  · refine vv_iconst (v := (-1)) C dX6_trust_16 (by decide) ?_
    cases hF
    exact hr _ _ dX6_trust_17 rfl
  · refine vv_aload_n C dX6_trust_8 0 rfl ?_
    refine vv_iload_n C dX6_trust_9 2 rfl ?_
    refine vv_callVi (fun r2 => r2) (fun r2 => (wM cy ad σ)) C en_ok h0 [.int x2] [] 1 hF (fun r2 hr2 => kX6_isFarm l D cy ad x2 σ r2  hr2) gX6_trust_X6_isFarm rfl rfl rfl (by decide +kernel) ⟨by decide, by decide⟩ 25 (wM_g29 cy ad _) rfl rfl rfl (Nat.le_of_ble_eq_true rfl) dX6_trust_10 ⟨by decide, by decide⟩ (fun r2 hqr2 hF => ?_)
    refine vv_if_ne (tgt := 18) C dX6_trust_13 (by decide) hF (fun c3 hF => ?_) (fun c3 hF => ?_)
    · refine vv_iconst (v := 0) C dX6_trust_18 (by decide) ?_
      refine vv_istore_n (lv' := [(3, .int 0), (0, .ref (ad 29)), (1, .int x1), (2, .int x2)]) C dX6_trust_19 (by decide) rfl ?_
      refine vv_lv [1, 2, 3, 0] rfl ?_
      exact vX6_trust_20 C h0 hr  FU_ x1 x2 0 σ  hF
    · refine vv_iconst (v := (-1)) C dX6_trust_16 (by decide) ?_
      cases hF
      exact hr _ _ dX6_trust_17 rfl
/-! X6_sell -/
abbrev rmX6_sell : Room := { frames := 2, cells := 0, slots := 0, locals := 43 }
theorem hi_X6_sell_X6 : ∀ w ∈ wsX60, w ∈ wsX6_sell := fun w h => List.mem_cons_of_mem _ (List.mem_append_right _ h)
def fX6_sell (x1 : Int32) (x2 : Int32) (σ : St_) : Option (Int32 × St_) := (bn_ (fX6_isFarm x1 σ) fun r1 => (if r1 = 0 then some (0, σ) else (bn_ (fX6_lies x2 1 10000) fun r2 => (if r2 = 0 then some (0, σ) else (gd_ x1 10 fun j3 => (if (sM σ 10 j3) = 0 then some (0, σ) else (gd_ x1 10 fun j4 => (gd_ x1 10 fun j5 => (gd_ x1 10 fun j6 => (gd_ x1 10 fun j7 => some (1, uM (uM σ 13 j5 ((sM σ 13 j4) + x2)) 15 j7 ((sM (uM σ 13 j5 ((sM σ 13 j4) + x2)) 15 j6) + x2))))))))))))
set_option maxHeartbeats 4000000 in
set_option maxRecDepth 20000 in
theorem kX6_sell (l : Launch) (D : va_G) (cy : Nat → ClassId) (ad : Nat → Nat) (x1 : Int32) (x2 : Int32) (σ : St_) (res : Int32 × St_)  (hF : fX6_sell x1 x2 σ = some res) : ct_I l D (tysW cy) en_T yX6_sell wsX6_sell rmX6_sell [.ref (ad 29), .int x1, .int x2] (wM cy ad σ) res.1 (wM cy ad res.2) := by
  refine mt_I (by decide) rfl (Nat.le_of_ble_eq_true rfl) ?_
  intro p e s m args below meth c A Q C h0 hr
  replace C : vv_X p s m args meth c D (tysW cy) A 3 cX6_sell RX6 wsX6_sell := C
  replace hF : ((bn_ (fX6_isFarm x1 σ) fun r1 => (if r1 = 0 then some (0, σ) else (bn_ (fX6_lies x2 1 10000) fun r2 => (if r2 = 0 then some (0, σ) else (gd_ x1 10 fun j3 => (if (sM σ 10 j3) = 0 then some (0, σ) else (gd_ x1 10 fun j4 => (gd_ x1 10 fun j5 => (gd_ x1 10 fun j6 => (gd_ x1 10 fun j7 => some (1, uM (uM σ 13 j5 ((sM σ 13 j4) + x2)) 15 j7 ((sM (uM σ 13 j5 ((sM σ 13 j4) + x2)) 15 j6) + x2)))))))))))) : Option (Int32 × St_)) = some res := hF
  refine vv_lv [0, 1, 2] (lv' := [(0, .ref (ad 29)), (1, .int x1), (2, .int x2)]) rfl ?_
  refine vv_aload_n C dX6_sell_0 0 rfl ?_
  refine vv_iload_n C dX6_sell_1 1 rfl ?_
  refine vv_callVi (fun r1 => r1) (fun r1 => (wM cy ad σ)) C en_ok h0 [.int x1] [] 1 hF (fun r1 hr1 => kX6_isFarm l D cy ad x1 σ r1  hr1) gX6_sell_X6_isFarm rfl rfl rfl (by decide +kernel) ⟨by decide, by decide⟩ 25 (wM_g29 cy ad _) rfl rfl rfl (Nat.le_of_ble_eq_true rfl) dX6_sell_2 ⟨by decide, by decide⟩ (fun r1 hqr1 hF => ?_)
  refine vv_if_eq (tgt := 28) C dX6_sell_5 (by decide) hF (fun c10 hF => ?_) (fun c10 hF => ?_)
  · refine vv_iconst (v := 0) C dX6_sell_28 (by decide) ?_
    cases hF
    exact hr _ _ dX6_sell_29 nb_Z0
  · refine vv_iload_n C dX6_sell_8 2 rfl ?_
    refine vv_iconst (v := 1) C dX6_sell_9 (by decide) ?_
    refine vv_sipush (v := 10000) C dX6_sell_10 (by decide) ?_
    refine vv_callSi (fun r2 => r2) (fun r2 => (wM cy ad σ)) C en_ok h0 [.int x2, .int 1, .int 10000] [] 3 hF (fun r2 hr2 => kX6_lies l D (tysW cy) en_ok (wM cy ad σ) x2 1 10000 r2  hr2) gX6_sell_X6_lies rfl rfl rfl (by decide +kernel) ⟨by decide, by decide⟩ rfl rfl (Nat.le_of_ble_eq_true rfl) dX6_sell_13 ⟨by decide, by decide⟩ (fun r2 hqr2 hF => ?_)
    refine vv_if_eq (tgt := 28) C dX6_sell_16 (by decide) hF (fun c9 hF => ?_) (fun c9 hF => ?_)
    · refine vv_iconst (v := 0) C dX6_sell_28 (by decide) ?_
      cases hF
      exact hr _ _ dX6_sell_29 nb_Z0
    · refine vv_aload_n C dX6_sell_19 0 rfl ?_
      refine vv_get (v := .ref (ad 10)) C (hi_X6_sell_X6) 25 (wM_g29 cy ad _) rfl 10 (by decide) (List.mem_of_getElem? (i := 1) rfl) rfl dX6_sell_20 ?_
      refine vv_iload_n C dX6_sell_23 1 rfl ?_
      refine vv_zald C 6 1 (wM_g10 cy ad _) (tysW_1 cy) hF dX6_sell_24 (fun j3 hj3 hF => ?_)
      refine vv_if_ne (tgt := 30) C dX6_sell_25 (by decide) hF (fun c8 hF => ?_) (fun c8 hF => ?_)
      · refine vv_aload_n C dX6_sell_30 0 rfl ?_
        refine vv_get (v := .ref (ad 13)) C (hi_X6_sell_X6) 25 (wM_g29 cy ad _) rfl 13 (by decide) (List.mem_of_getElem? (i := 2) rfl) rfl dX6_sell_31 ?_
        refine vv_iload_n C dX6_sell_34 1 rfl ?_
        refine vv_dup2 C dX6_sell_35 rfl rfl ?_
        refine vv_iald C 9 0 (wM_g13 cy ad _) (tysW_0 cy) hF dX6_sell_36 (fun j4 hj4 hF => ?_)
        refine vv_iload_n C dX6_sell_37 2 rfl ?_
        refine vv_iadd C dX6_sell_38 ?_
        refine vv_iast (w' := fun j5 => (wM cy ad (uM σ 13 j5 ((sM σ 13 j4) + x2)))) C 9 0 (wM_g13 cy ad _) (tysW_0 cy) hF dX6_sell_39 (fun _ => wM_a13 _ _ _ _) (fun j5 hj5 hF => ?_)
        refine vv_aload_n C dX6_sell_40 0 rfl ?_
        refine vv_get (v := .ref (ad 15)) C (hi_X6_sell_X6) 25 (wM_g29 cy ad _) rfl 15 (by decide) (List.mem_of_getElem? (i := 3) rfl) rfl dX6_sell_41 ?_
        refine vv_iload_n C dX6_sell_44 1 rfl ?_
        refine vv_dup2 C dX6_sell_45 rfl rfl ?_
        refine vv_iald C 11 0 (wM_g15 cy ad _) (tysW_0 cy) hF dX6_sell_46 (fun j6 hj6 hF => ?_)
        refine vv_iload_n C dX6_sell_47 2 rfl ?_
        refine vv_iadd C dX6_sell_48 ?_
        refine vv_iast (w' := fun j7 => (wM cy ad (uM (uM σ 13 j5 ((sM σ 13 j4) + x2)) 15 j7 ((sM (uM σ 13 j5 ((sM σ 13 j4) + x2)) 15 j6) + x2)))) C 11 0 (wM_g15 cy ad _) (tysW_0 cy) hF dX6_sell_49 (fun _ => wM_a15 _ _ _ _) (fun j7 hj7 hF => ?_)
        refine vv_iconst (v := 1) C dX6_sell_50 (by decide) ?_
        cases hF
        exact hr _ _ dX6_sell_51 nb_Z1
      · refine vv_iconst (v := 0) C dX6_sell_28 (by decide) ?_
        cases hF
        exact hr _ _ dX6_sell_29 nb_Z0
