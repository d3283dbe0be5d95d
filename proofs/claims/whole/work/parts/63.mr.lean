/-! X6_goesOut -/
abbrev rmX6_goesOut : Room := { frames := 0, cells := 0, slots := 0, locals := 0 }
theorem hi_X6_goesOut_X6 : ∀ w ∈ wsX60, w ∈ wsX6_goesOut := fun w h => List.mem_cons_of_mem _ (List.mem_append_right _ h)
def fX6_goesOut (x1 : Int32) (σ : St_) : Option St_ := (gd_ x1 10 fun j1 => (gd_ x1 10 fun j2 => (gd_ 4 6 fun j3 => (gd_ x1 10 fun j4 => some (uM (uM (uM σ 10 j1 (vp_nar .boolean 0)) 11 j2 0) 12 j4 (sM (uM (uM σ 10 j1 (vp_nar .boolean 0)) 11 j2 0) 5 j3))))))
set_option maxHeartbeats 4000000 in
set_option maxRecDepth 20000 in
theorem kX6_goesOut (l : Launch) (D : va_G) (cy : Nat → ClassId) (ad : Nat → Nat) (x1 : Int32) (σ : St_) (res : St_)  (hF : fX6_goesOut x1 σ = some res) : ct_V l D (tysW cy) en_T yX6_goesOut wsX6_goesOut rmX6_goesOut [.ref (ad 29), .int x1] (wM cy ad σ) (wM cy ad res) := by
  refine mt_V (by decide) rfl (Nat.le_of_ble_eq_true rfl) ?_
  intro p e s m args below meth c A Q C h0 hr
  replace C : vv_X p s m args meth c D (tysW cy) A 2 cX6_goesOut RX6 wsX6_goesOut := C
  replace hF : ((gd_ x1 10 fun j1 => (gd_ x1 10 fun j2 => (gd_ 4 6 fun j3 => (gd_ x1 10 fun j4 => some (uM (uM (uM σ 10 j1 (vp_nar .boolean 0)) 11 j2 0) 12 j4 (sM (uM (uM σ 10 j1 (vp_nar .boolean 0)) 11 j2 0) 5 j3)))))) : Option St_) = some res := hF
  refine vv_lv [0, 1] (lv' := [(0, .ref (ad 29)), (1, .int x1)]) rfl ?_
  refine vv_aload_n C dX6_goesOut_0 0 rfl ?_
  refine vv_get (v := .ref (ad 10)) C (hi_X6_goesOut_X6) 25 (wM_g29 cy ad _) rfl 10 (by decide) (List.mem_of_getElem? (i := 1) rfl) rfl dX6_goesOut_1 ?_
  refine vv_iload_n C dX6_goesOut_4 1 rfl ?_
  refine vv_iconst (v := 0) C dX6_goesOut_5 (by decide) ?_
  refine vv_zast (w' := fun j1 => (wM cy ad (uM σ 10 j1 (vp_nar .boolean 0)))) C 6 1 (wM_g10 cy ad _) (tysW_1 cy) hF dX6_goesOut_6 (fun _ => wM_a10 _ _ _ _) (fun j1 hj1 hF => ?_)
  refine vv_aload_n C dX6_goesOut_7 0 rfl ?_
  refine vv_get (v := .ref (ad 11)) C (hi_X6_goesOut_X6) 25 (wM_g29 cy ad _) rfl 11 (by decide) (List.mem_of_getElem? (i := 2) rfl) rfl dX6_goesOut_8 ?_
  refine vv_iload_n C dX6_goesOut_11 1 rfl ?_
  refine vv_iconst (v := 0) C dX6_goesOut_12 (by decide) ?_
  refine vv_iast (w' := fun j2 => (wM cy ad (uM (uM σ 10 j1 (vp_nar .boolean 0)) 11 j2 0))) C 7 0 (wM_g11 cy ad _) (tysW_0 cy) hF dX6_goesOut_13 (fun _ => wM_a11 _ _ _ _) (fun j2 hj2 hF => ?_)
  refine vv_aload_n C dX6_goesOut_14 0 rfl ?_
  refine vv_get (v := .ref (ad 12)) C (hi_X6_goesOut_X6) 25 (wM_g29 cy ad _) rfl 12 (by decide) (List.mem_of_getElem? (i := 3) rfl) rfl dX6_goesOut_15 ?_
  refine vv_iload_n C dX6_goesOut_18 1 rfl ?_
  refine vv_aload_n C dX6_goesOut_19 0 rfl ?_
  refine vv_get (v := .ref (ad 5)) C (hi_X6_goesOut_X6) 25 (wM_g29 cy ad _) rfl 5 (by decide) (List.mem_of_getElem? (i := 4) rfl) rfl dX6_goesOut_20 ?_
  refine vv_iconst (v := 4) C dX6_goesOut_23 (by decide) ?_
  refine vv_iald C 1 0 (wM_g5 cy ad _) (tysW_0 cy) hF dX6_goesOut_24 (fun j3 hj3 hF => ?_)
  refine vv_iast (w' := fun j4 => (wM cy ad (uM (uM (uM σ 10 j1 (vp_nar .boolean 0)) 11 j2 0) 12 j4 (sM (uM (uM σ 10 j1 (vp_nar .boolean 0)) 11 j2 0) 5 j3)))) C 8 0 (wM_g12 cy ad _) (tysW_0 cy) hF dX6_goesOut_25 (fun _ => wM_a12 _ _ _ _) (fun j4 hj4 hF => ?_)
  cases hF
  exact hr _ _ dX6_goesOut_26
/-! X6_goesBy -/
abbrev rmX6_goesBy : Room := { frames := 3, cells := 0, slots := 0, locals := 71 }
theorem hi_X6_goesBy_X6 : ∀ w ∈ wsX60, w ∈ wsX6_goesBy := fun w h => List.mem_cons_of_mem _ (List.mem_append_right _ h)
def fX6_goesBy_150 (t0 : Int32) (t1 : Int32) (σ : St_) : Option St_ := (gd_ t1 10 fun j26 => some (uM σ 10 j26 (vp_nar .boolean t0)))
def fX6_goesBy_112 (x1 : Int32) (t0 : Int32) (t1 : Int32) (σ : St_) : Option St_ := (gd_ t1 10 fun j20 => (gd_ x1 10 fun j21 => (if (sM (uM σ 11 j20 t0) 11 j21) = 3 then (bn_ (fX6_goesOut x1 (uM σ 11 j20 t0)) fun r24 => some r24) else (bn_ (fX6_visitorsOf x1 (uM σ 11 j20 t0)) fun r22 => (if r22 ≤ 1 then fX6_goesBy_150  0 x1 (uM σ 11 j20 t0) else fX6_goesBy_150  1 x1 (uM σ 11 j20 t0))))))
def fX6_goesBy_29 (x1 : Int32) (x2 : Int32) (σ : St_) : Option St_ := (gd_ x1 10 fun j7 => (if (sM σ 12 j7) ≤ 0 then (gd_ 3 6 fun j8 => (if x2 < (sM σ 5 j8) then (gd_ 2 6 fun j9 => (if x2 < (sM σ 5 j9) then (gd_ x1 10 fun j10 => (if (sM σ 11 j10) ≤ 0 then fX6_goesBy_112  x1 0 x1 σ else (gd_ x1 10 fun j11 => fX6_goesBy_112  x1 ((sM σ 11 j11) - 1) x1 σ))) else (gd_ x1 10 fun j13 => fX6_goesBy_112  x1 ((sM σ 11 j13) + 1) x1 σ))) else (bn_ (fX6_goesOut x1 σ) fun r15 => some r15))) else (gd_ x1 10 fun j17 => (gd_ x1 10 fun j18 => some (uM σ 12 j18 ((sM σ 12 j17) - 1))))))
def fX6_goesBy (x1 : Int32) (σ : St_) : Option St_ := (bn_ (fX6_weighsAt x1 σ) fun r1 => (bn_ (fX6_breachesAt x1 σ) fun r2 => (if r2 = 0 then fX6_goesBy_29  x1 r1 σ else (gd_ x1 10 fun j3 => (gd_ x1 10 fun j4 => (gd_ x1 10 fun j5 => fX6_goesBy_29  x1 r1 (uM σ 14 j5 ((sM σ 14 j3) + (sM σ 15 j4)))))))))
set_option maxHeartbeats 4000000 in
set_option maxRecDepth 20000 in
theorem vX6_goesBy_150 {p : Program} {l : Launch} {e : Env} {s : State} {m : MethodId} {args : Array Value} {below : List Frame} {meth : Method} {c : Code} {D : va_G} {A : Nat → Prop} {Q : State → Prop} {cy : Nat → ClassId} {ad : Nat → Nat} {res : St_} (C : vv_X p s m args meth c D (tysW cy) A 3 cX6_goesBy RX6 wsX6_goesBy) (h0 : en_T A s) (hr : rt_V p l e rmX6_goesBy s m args below meth c D A 3 Q cX6_goesBy (wM cy ad res)) : ∀ (t0 : Int32) (t1 : Int32) (σ : St_), fX6_goesBy_150  t0 t1 σ = some res → vv_ p l e rmX6_goesBy s m args below meth c D A 3 Q 0 0 (wM cy ad σ) [] 150 [.int t0, .int t1, .ref (ad 10)] := by
  intro t0 t1 σ hF
  replace hF : ((gd_ t1 10 fun j26 => some (uM σ 10 j26 (vp_nar .boolean t0))) : Option St_) = some res := hF
  refine vv_zast (w' := fun j26 => (wM cy ad (uM σ 10 j26 (vp_nar .boolean t0)))) C 6 1 (wM_g10 cy ad _) (tysW_1 cy) hF dX6_goesBy_150 (fun _ => wM_a10 _ _ _ _) (fun j26 hj26 hF => ?_)
  cases hF
  exact hr _ _ dX6_goesBy_151
set_option maxHeartbeats 4000000 in
set_option maxRecDepth 20000 in
theorem vX6_goesBy_112 {p : Program} {l : Launch} {e : Env} {s : State} {m : MethodId} {args : Array Value} {below : List Frame} {meth : Method} {c : Code} {D : va_G} {A : Nat → Prop} {Q : State → Prop} {cy : Nat → ClassId} {ad : Nat → Nat} {res : St_} (C : vv_X p s m args meth c D (tysW cy) A 3 cX6_goesBy RX6 wsX6_goesBy) (h0 : en_T A s) (hr : rt_V p l e rmX6_goesBy s m args below meth c D A 3 Q cX6_goesBy (wM cy ad res)) : ∀ (x1 : Int32) (t0 : Int32) (t1 : Int32) (σ : St_), fX6_goesBy_112  x1 t0 t1 σ = some res → vv_ p l e rmX6_goesBy s m args below meth c D A 3 Q 0 0 (wM cy ad σ) [(0, .ref (ad 29)), (1, .int x1)] 112 [.int t0, .int t1, .ref (ad 11)] := by
  intro x1 t0 t1 σ hF
  replace hF : ((gd_ t1 10 fun j20 => (gd_ x1 10 fun j21 => (if (sM (uM σ 11 j20 t0) 11 j21) = 3 then (bn_ (fX6_goesOut x1 (uM σ 11 j20 t0)) fun r24 => some r24) else (bn_ (fX6_visitorsOf x1 (uM σ 11 j20 t0)) fun r22 => (if r22 ≤ 1 then fX6_goesBy_150  0 x1 (uM σ 11 j20 t0) else fX6_goesBy_150  1 x1 (uM σ 11 j20 t0)))))) : Option St_) = some res := hF
  refine vv_iast (w' := fun j20 => (wM cy ad (uM σ 11 j20 t0))) C 7 0 (wM_g11 cy ad _) (tysW_0 cy) hF dX6_goesBy_112 (fun _ => wM_a11 _ _ _ _) (fun j20 hj20 hF => ?_)
  refine vv_aload_n C dX6_goesBy_113 0 rfl ?_
  refine vv_get (v := .ref (ad 11)) C (hi_X6_goesBy_X6) 25 (wM_g29 cy ad _) rfl 11 (by decide) (List.mem_of_getElem? (i := 5) rfl) rfl dX6_goesBy_114 ?_
  refine vv_iload_n C dX6_goesBy_117 1 rfl ?_
  refine vv_iald C 7 0 (wM_g11 cy ad _) (tysW_0 cy) hF dX6_goesBy_118 (fun j21 hj21 hF => ?_)
  refine vv_iconst (v := 3) C dX6_goesBy_119 (by decide) ?_
  refine vv_icmp_ne (tgt := 131) C dX6_goesBy_120 (by decide) hF (fun c25 hF => ?_) (fun c25 hF => ?_)
  · refine vv_aload_n C dX6_goesBy_131 0 rfl ?_
    refine vv_get (v := .ref (ad 10)) C (hi_X6_goesBy_X6) 25 (wM_g29 cy ad _) rfl 10 (by decide) (List.mem_of_getElem? (i := 6) rfl) rfl dX6_goesBy_132 ?_
    refine vv_iload_n C dX6_goesBy_135 1 rfl ?_
    refine vv_aload_n C dX6_goesBy_136 0 rfl ?_
    refine vv_iload_n C dX6_goesBy_137 1 rfl ?_
    refine vv_callVi (fun r22 => r22) (fun r22 => (wM cy ad (uM σ 11 j20 t0))) C en_ok h0 [.int x1] [.int x1, .ref (ad 10)] 1 hF (fun r22 hr22 => kX6_visitorsOf l D cy ad x1 (uM σ 11 j20 t0) r22  hr22) gX6_goesBy_X6_visitorsOf rfl rfl rfl (by decide +kernel) ⟨by decide, by decide⟩ 25 (wM_g29 cy ad _) rfl rfl rfl (Nat.le_of_ble_eq_true rfl) dX6_goesBy_138 ⟨by decide, by decide⟩ (fun r22 hqr22 hF => ?_)
    refine vv_iconst (v := 1) C dX6_goesBy_141 (by decide) ?_
    refine vv_icmp_le (tgt := 149) C dX6_goesBy_142 (by decide) hF (fun c23 hF => ?_) (fun c23 hF => ?_)
    · refine vv_iconst (v := 0) C dX6_goesBy_149 (by decide) ?_
      refine vv_lv [] rfl ?_
      exact vX6_goesBy_150 C h0 hr  0 x1 (uM σ 11 j20 t0)  hF
    · refine vv_iconst (v := 1) C dX6_goesBy_145 (by decide) ?_
      refine vv_goto (tgt := 150) C dX6_goesBy_146 (by decide) ?_
      refine vv_lv [] rfl ?_
      exact vX6_goesBy_150 C h0 hr  1 x1 (uM σ 11 j20 t0)  hF
  · refine vv_aload_n C dX6_goesBy_123 0 rfl ?_
    refine vv_iload_n C dX6_goesBy_124 1 rfl ?_
    refine vv_callVv  (fun r24 => (wM cy ad r24)) C en_ok h0 [.int x1] [] 1 hF (fun r24 hr24 => kX6_goesOut l D cy ad x1 (uM σ 11 j20 t0) r24  hr24) gX6_goesBy_X6_goesOut rfl rfl rfl (by decide +kernel) ⟨by decide, by decide⟩ 25 (wM_g29 cy ad _) rfl rfl rfl (Nat.le_of_ble_eq_true rfl) dX6_goesBy_125 ⟨by decide, by decide⟩ (fun r24 hqr24 hF => ?_)
    refine vv_goto (tgt := 151) C dX6_goesBy_128 (by decide) ?_
    cases hF
    exact hr _ _ dX6_goesBy_151
set_option maxHeartbeats 4000000 in
set_option maxRecDepth 20000 in
theorem vX6_goesBy_29 {p : Program} {l : Launch} {e : Env} {s : State} {m : MethodId} {args : Array Value} {below : List Frame} {meth : Method} {c : Code} {D : va_G} {A : Nat → Prop} {Q : State → Prop} {cy : Nat → ClassId} {ad : Nat → Nat} {res : St_} (C : vv_X p s m args meth c D (tysW cy) A 3 cX6_goesBy RX6 wsX6_goesBy) (h0 : en_T A s) (hr : rt_V p l e rmX6_goesBy s m args below meth c D A 3 Q cX6_goesBy (wM cy ad res)) : ∀ (x1 : Int32) (x2 : Int32) (σ : St_), fX6_goesBy_29  x1 x2 σ = some res → vv_ p l e rmX6_goesBy s m args below meth c D A 3 Q 0 0 (wM cy ad σ) [(0, .ref (ad 29)), (1, .int x1), (2, .int x2)] 29 [] := by
  intro x1 x2 σ hF
  replace hF : ((gd_ x1 10 fun j7 => (if (sM σ 12 j7) ≤ 0 then (gd_ 3 6 fun j8 => (if x2 < (sM σ 5 j8) then (gd_ 2 6 fun j9 => (if x2 < (sM σ 5 j9) then (gd_ x1 10 fun j10 => (if (sM σ 11 j10) ≤ 0 then fX6_goesBy_112  x1 0 x1 σ else (gd_ x1 10 fun j11 => fX6_goesBy_112  x1 ((sM σ 11 j11) - 1) x1 σ))) else (gd_ x1 10 fun j13 => fX6_goesBy_112  x1 ((sM σ 11 j13) + 1) x1 σ))) else (bn_ (fX6_goesOut x1 σ) fun r15 => some r15))) else (gd_ x1 10 fun j17 => (gd_ x1 10 fun j18 => some (uM σ 12 j18 ((sM σ 12 j17) - 1)))))) : Option St_) = some res := hF
  refine vv_aload_n C dX6_goesBy_29 0 rfl ?_
  refine vv_get (v := .ref (ad 12)) C (hi_X6_goesBy_X6) 25 (wM_g29 cy ad _) rfl 12 (by decide) (List.mem_of_getElem? (i := 3) rfl) rfl dX6_goesBy_30 ?_
  refine vv_iload_n C dX6_goesBy_33 1 rfl ?_
  refine vv_iald C 8 0 (wM_g12 cy ad _) (tysW_0 cy) hF dX6_goesBy_34 (fun j7 hj7 hF => ?_)
  refine vv_if_le (tgt := 49) C dX6_goesBy_35 (by decide) hF (fun c19 hF => ?_) (fun c19 hF => ?_)
  · refine vv_iload_n C dX6_goesBy_49 2 rfl ?_
    refine vv_aload_n C dX6_goesBy_50 0 rfl ?_
    refine vv_get (v := .ref (ad 5)) C (hi_X6_goesBy_X6) 25 (wM_g29 cy ad _) rfl 5 (by decide) (List.mem_of_getElem? (i := 4) rfl) rfl dX6_goesBy_51 ?_
    refine vv_iconst (v := 3) C dX6_goesBy_54 (by decide) ?_
    refine vv_iald C 1 0 (wM_g5 cy ad _) (tysW_0 cy) hF dX6_goesBy_55 (fun j8 hj8 hF => ?_)
    refine vv_icmp_lt (tgt := 65) C dX6_goesBy_56 (by decide) hF (fun c16 hF => ?_) (fun c16 hF => ?_)
    · refine vv_aload_n C dX6_goesBy_65 0 rfl ?_
      refine vv_get (v := .ref (ad 11)) C (hi_X6_goesBy_X6) 25 (wM_g29 cy ad _) rfl 11 (by decide) (List.mem_of_getElem? (i := 5) rfl) rfl dX6_goesBy_66 ?_
      refine vv_iload_n C dX6_goesBy_69 1 rfl ?_
      refine vv_iload_n C dX6_goesBy_70 2 rfl ?_
      refine vv_aload_n C dX6_goesBy_71 0 rfl ?_
      refine vv_get (v := .ref (ad 5)) C (hi_X6_goesBy_X6) 25 (wM_g29 cy ad _) rfl 5 (by decide) (List.mem_of_getElem? (i := 4) rfl) rfl dX6_goesBy_72 ?_
      refine vv_iconst (v := 2) C dX6_goesBy_75 (by decide) ?_
      refine vv_iald C 1 0 (wM_g5 cy ad _) (tysW_0 cy) hF dX6_goesBy_76 (fun j9 hj9 hF => ?_)
      refine vv_icmp_lt (tgt := 91) C dX6_goesBy_77 (by decide) hF (fun c14 hF => ?_) (fun c14 hF => ?_)
      · refine vv_aload_n C dX6_goesBy_91 0 rfl ?_
        refine vv_get (v := .ref (ad 11)) C (hi_X6_goesBy_X6) 25 (wM_g29 cy ad _) rfl 11 (by decide) (List.mem_of_getElem? (i := 5) rfl) rfl dX6_goesBy_92 ?_
        refine vv_iload_n C dX6_goesBy_95 1 rfl ?_
        refine vv_iald C 7 0 (wM_g11 cy ad _) (tysW_0 cy) hF dX6_goesBy_96 (fun j10 hj10 hF => ?_)
        refine vv_if_le (tgt := 111) C dX6_goesBy_97 (by decide) hF (fun c12 hF => ?_) (fun c12 hF => ?_)
        · refine vv_iconst (v := 0) C dX6_goesBy_111 (by decide) ?_
          refine vv_lv [0, 1] rfl ?_
          exact vX6_goesBy_112 C h0 hr  x1 0 x1 σ  hF
        · refine vv_aload_n C dX6_goesBy_100 0 rfl ?_
          refine vv_get (v := .ref (ad 11)) C (hi_X6_goesBy_X6) 25 (wM_g29 cy ad _) rfl 11 (by decide) (List.mem_of_getElem? (i := 5) rfl) rfl dX6_goesBy_101 ?_
          refine vv_iload_n C dX6_goesBy_104 1 rfl ?_
          refine vv_iald C 7 0 (wM_g11 cy ad _) (tysW_0 cy) hF dX6_goesBy_105 (fun j11 hj11 hF => ?_)
          refine vv_iconst (v := 1) C dX6_goesBy_106 (by decide) ?_
          refine vv_isub C dX6_goesBy_107 ?_
          refine vv_goto (tgt := 112) C dX6_goesBy_108 (by decide) ?_
          refine vv_lv [0, 1] rfl ?_
          exact vX6_goesBy_112 C h0 hr  x1 ((sM σ 11 j11) - 1) x1 σ  hF
      · refine vv_aload_n C dX6_goesBy_80 0 rfl ?_
        refine vv_get (v := .ref (ad 11)) C (hi_X6_goesBy_X6) 25 (wM_g29 cy ad _) rfl 11 (by decide) (List.mem_of_getElem? (i := 5) rfl) rfl dX6_goesBy_81 ?_
        refine vv_iload_n C dX6_goesBy_84 1 rfl ?_
        refine vv_iald C 7 0 (wM_g11 cy ad _) (tysW_0 cy) hF dX6_goesBy_85 (fun j13 hj13 hF => ?_)
        refine vv_iconst (v := 1) C dX6_goesBy_86 (by decide) ?_
        refine vv_iadd C dX6_goesBy_87 ?_
        refine vv_goto (tgt := 112) C dX6_goesBy_88 (by decide) ?_
        refine vv_lv [0, 1] rfl ?_
        exact vX6_goesBy_112 C h0 hr  x1 ((sM σ 11 j13) + 1) x1 σ  hF
    · refine vv_aload_n C dX6_goesBy_59 0 rfl ?_
      refine vv_iload_n C dX6_goesBy_60 1 rfl ?_
      refine vv_callVv  (fun r15 => (wM cy ad r15)) C en_ok h0 [.int x1] [] 1 hF (fun r15 hr15 => kX6_goesOut l D cy ad x1 σ r15  hr15) gX6_goesBy_X6_goesOut rfl rfl rfl (by decide +kernel) ⟨by decide, by decide⟩ 25 (wM_g29 cy ad _) rfl rfl rfl (Nat.le_of_ble_eq_true rfl) dX6_goesBy_61 ⟨by decide, by decide⟩ (fun r15 hqr15 hF => ?_)
      cases hF
      exact hr _ _ dX6_goesBy_64
  · refine vv_aload_n C dX6_goesBy_38 0 rfl ?_
    refine vv_get (v := .ref (ad 12)) C (hi_X6_goesBy_X6) 25 (wM_g29 cy ad _) rfl 12 (by decide) (List.mem_of_getElem? (i := 3) rfl) rfl dX6_goesBy_39 ?_
    refine vv_iload_n C dX6_goesBy_42 1 rfl ?_
    refine vv_dup2 C dX6_goesBy_43 rfl rfl ?_
    refine vv_iald C 8 0 (wM_g12 cy ad _) (tysW_0 cy) hF dX6_goesBy_44 (fun j17 hj17 hF => ?_)
    refine vv_iconst (v := 1) C dX6_goesBy_45 (by decide) ?_
    refine vv_isub C dX6_goesBy_46 ?_
    refine vv_iast (w' := fun j18 => (wM cy ad (uM σ 12 j18 ((sM σ 12 j17) - 1)))) C 8 0 (wM_g12 cy ad _) (tysW_0 cy) hF dX6_goesBy_47 (fun _ => wM_a12 _ _ _ _) (fun j18 hj18 hF => ?_)
    cases hF
    exact hr _ _ dX6_goesBy_48
set_option maxHeartbeats 4000000 in
set_option maxRecDepth 20000 in
theorem kX6_goesBy (l : Launch) (D : va_G) (cy : Nat → ClassId) (ad : Nat → Nat) (x1 : Int32) (σ : St_) (res : St_)  (hF : fX6_goesBy x1 σ = some res) : ct_V l D (tysW cy) en_T yX6_goesBy wsX6_goesBy rmX6_goesBy [.ref (ad 29), .int x1] (wM cy ad σ) (wM cy ad res) := by
  refine mt_V (by decide) rfl (Nat.le_of_ble_eq_true rfl) ?_
  intro p e s m args below meth c A Q C h0 hr
  replace C : vv_X p s m args meth c D (tysW cy) A 3 cX6_goesBy RX6 wsX6_goesBy := C
  replace hF : ((bn_ (fX6_weighsAt x1 σ) fun r1 => (bn_ (fX6_breachesAt x1 σ) fun r2 => (if r2 = 0 then fX6_goesBy_29  x1 r1 σ else (gd_ x1 10 fun j3 => (gd_ x1 10 fun j4 => (gd_ x1 10 fun j5 => fX6_goesBy_29  x1 r1 (uM σ 14 j5 ((sM σ 14 j3) + (sM σ 15 j4))))))))) : Option St_) = some res := hF
  refine vv_lv [0, 1] (lv' := [(0, .ref (ad 29)), (1, .int x1)]) rfl ?_
  refine vv_aload_n C dX6_goesBy_0 0 rfl ?_
  refine vv_iload_n C dX6_goesBy_1 1 rfl ?_
  refine vv_callVi (fun r1 => r1) (fun r1 => (wM cy ad σ)) C en_ok h0 [.int x1] [] 1 hF (fun r1 hr1 => kX6_weighsAt l D cy ad x1 σ r1  hr1) gX6_goesBy_X6_weighsAt rfl rfl rfl (by decide +kernel) ⟨by decide, by decide⟩ 25 (wM_g29 cy ad _) rfl rfl rfl (Nat.le_of_ble_eq_true rfl) dX6_goesBy_2 ⟨by decide, by decide⟩ (fun r1 hqr1 hF => ?_)
  refine vv_istore_n (lv' := [(2, .int r1), (0, .ref (ad 29)), (1, .int x1)]) C dX6_goesBy_5 (by decide) rfl ?_
  refine vv_aload_n C dX6_goesBy_6 1 rfl ?_
  refine vv_iload_n C dX6_goesBy_7 2 rfl ?_
  refine vv_callVi (fun r2 => r2) (fun r2 => (wM cy ad σ)) C en_ok h0 [.int x1] [] 1 hF (fun r2 hr2 => kX6_breachesAt l D cy ad x1 σ r2  hr2) gX6_goesBy_X6_breachesAt rfl rfl rfl (by decide +kernel) ⟨by decide, by decide⟩ 25 (wM_g29 cy ad _) rfl rfl rfl (Nat.le_of_ble_eq_true rfl) dX6_goesBy_8 ⟨by decide, by decide⟩ (fun r2 hqr2 hF => ?_)
  refine vv_if_eq (tgt := 29) C dX6_goesBy_11 (by decide) hF (fun c6 hF => ?_) (fun c6 hF => ?_)
  · refine vv_lv [1, 2, 0] rfl ?_
    exact vX6_goesBy_29 C h0 hr  x1 r1 σ  hF
  · refine vv_aload_n C dX6_goesBy_14 1 rfl ?_
    refine vv_get (v := .ref (ad 14)) C (hi_X6_goesBy_X6) 25 (wM_g29 cy ad _) rfl 14 (by decide) (List.mem_of_getElem? (i := 1) rfl) rfl dX6_goesBy_15 ?_
    refine vv_iload_n C dX6_goesBy_18 2 rfl ?_
    refine vv_dup2 C dX6_goesBy_19 rfl rfl ?_
    refine vv_iald C 10 0 (wM_g14 cy ad _) (tysW_0 cy) hF dX6_goesBy_20 (fun j3 hj3 hF => ?_)
    refine vv_aload_n C dX6_goesBy_21 1 rfl ?_
    refine vv_get (v := .ref (ad 15)) C (hi_X6_goesBy_X6) 25 (wM_g29 cy ad _) rfl 15 (by decide) (List.mem_of_getElem? (i := 2) rfl) rfl dX6_goesBy_22 ?_
    refine vv_iload_n C dX6_goesBy_25 2 rfl ?_
    refine vv_iald C 11 0 (wM_g15 cy ad _) (tysW_0 cy) hF dX6_goesBy_26 (fun j4 hj4 hF => ?_)
    refine vv_iadd C dX6_goesBy_27 ?_
    refine vv_iast (w' := fun j5 => (wM cy ad (uM σ 14 j5 ((sM σ 14 j3) + (sM σ 15 j4))))) C 10 0 (wM_g14 cy ad _) (tysW_0 cy) hF dX6_goesBy_28 (fun _ => wM_a14 _ _ _ _) (fun j5 hj5 hF => ?_)
    refine vv_lv [1, 2, 0] rfl ?_
    exact vX6_goesBy_29 C h0 hr  x1 r1 (uM σ 14 j5 ((sM σ 14 j3) + (sM σ 15 j4)))  hF
/-! X6_year -/
abbrev rmX6_year : Room := { frames := 4, cells := 0, slots := 0, locals := 93 }
theorem hi_X6_year_X6 : ∀ w ∈ wsX60, w ∈ wsX6_year := fun w h => List.mem_cons_of_mem _ (List.mem_append_right _ h)
def fX6_year_89 (σ : St_) : Option (Int32 × St_) := some ((sS (uS (uS σ 4 0) 3 ((sS (uS σ 4 0) 3) + 1)) 3), uS (uS σ 4 0) 3 ((sS (uS σ 4 0) 3) + 1))
def fX6_year_65 : Nat → Int32 → St_ → Option (Int32 × St_)
  | 0, _, _ => none
  | n + 1, x1, σ => (if 100 ≤ x1 then fX6_year_89  σ else (gd_ x1 100 fun j7 => (gd_ x1 100 fun j8 => fX6_year_65  n (x1 + 1) (uM σ 18 j8 (vp_nar .boolean (sM σ 17 j7))))))
def fX6_year_63 (σ : St_) : Option (Int32 × St_) := fX6_year_65  FU_ 0 σ
def fX6_year_42 : Nat → Int32 → St_ → Option (Int32 × St_)
  | 0, _, _ => none
  | n + 1, x1, σ => (if (sS σ 2) ≤ x1 then fX6_year_63  σ else (gd_ x1 10 fun j5 => fX6_year_42  n (x1 + 1) (uM σ 15 j5 0)))
def fX6_year_40 (σ : St_) : Option (Int32 × St_) := fX6_year_42  FU_ 0 σ
def fX6_year_21 : Nat → Int32 → St_ → Option (Int32 × St_)
  | 0, _, _ => none
  | n + 1, x1, σ => (if (sS σ 2) ≤ x1 then fX6_year_40  σ else (bn_ (fX6_goesBy x1 σ) fun r3 => fX6_year_21  n (x1 + 1) r3))
def fX6_year (σ : St_) : Option (Int32 × St_) := (if (sS σ 4) = 0 then some ((-1), σ) else (if (sS σ 3) = 500 then some ((-1), σ) else fX6_year_21  FU_ 0 σ))
set_option maxHeartbeats 4000000 in
set_option maxRecDepth 20000 in
theorem vX6_year_89 {p : Program} {l : Launch} {e : Env} {s : State} {m : MethodId} {args : Array Value} {below : List Frame} {meth : Method} {c : Code} {D : va_G} {A : Nat → Prop} {Q : State → Prop} {cy : Nat → ClassId} {ad : Nat → Nat} {res : Int32 × St_} (C : vv_X p s m args meth c D (tysW cy) A 2 cX6_year RX6 wsX6_year) (h0 : en_T A s) (hr : rt_I p l e rmX6_year s m args below meth c D A 2 Q cX6_year .int (wM cy ad res.2) res.1) : ∀ (σ : St_), fX6_year_89  σ = some res → vv_ p l e rmX6_year s m args below meth c D A 2 Q 0 0 (wM cy ad σ) [(0, .ref (ad 29))] 89 [] := by
  intro σ hF
  replace hF : (some ((sS (uS (uS σ 4 0) 3 ((sS (uS σ 4 0) 3) + 1)) 3), uS (uS σ 4 0) 3 ((sS (uS σ 4 0) 3) + 1)) : Option (Int32 × St_)) = some res := hF
  refine vv_aload_n C dX6_year_89 0 rfl ?_
  refine vv_iconst (v := 0) C dX6_year_90 (by decide) ?_
  refine vv_put (w' := (wM cy ad (uS σ 4 0))) C (hi_X6_year_X6) tyX6 tyX6_ok nmX6 25 (wM_g29 cy ad _) rfl 4 (by decide) (List.mem_of_getElem? (i := 1) rfl) rfl (by decide +kernel) (by decide +kernel) (Nat.le_of_ble_eq_true rfl) dX6_year_91 (wM_s4 _ _ _ _) ?_
  refine vv_aload_n C dX6_year_94 0 rfl ?_
  refine vv_dup C dX6_year_95 rfl ?_
  refine vv_get (v := .int (sS (uS σ 4 0) 3)) C (hi_X6_year_X6) 25 (wM_g29 cy ad _) rfl 3 (by decide) (List.mem_of_getElem? (i := 2) rfl) rfl dX6_year_96 ?_
  refine vv_iconst (v := 1) C dX6_year_99 (by decide) ?_
  refine vv_iadd C dX6_year_100 ?_
  refine vv_put (w' := (wM cy ad (uS (uS σ 4 0) 3 ((sS (uS σ 4 0) 3) + 1)))) C (hi_X6_year_X6) tyX6 tyX6_ok nmX6 25 (wM_g29 cy ad _) rfl 3 (by decide) (List.mem_of_getElem? (i := 2) rfl) rfl rfl rfl (Nat.le_of_ble_eq_true rfl) dX6_year_101 (wM_s3 _ _ _ _) ?_
  refine vv_aload_n C dX6_year_104 0 rfl ?_
  refine vv_get (v := .int (sS (uS (uS σ 4 0) 3 ((sS (uS σ 4 0) 3) + 1)) 3)) C (hi_X6_year_X6) 25 (wM_g29 cy ad _) rfl 3 (by decide) (List.mem_of_getElem? (i := 2) rfl) rfl dX6_year_105 ?_
  cases hF
  exact hr _ _ dX6_year_108 rfl
set_option maxHeartbeats 4000000 in
set_option maxRecDepth 20000 in
theorem vX6_year_65 {p : Program} {l : Launch} {e : Env} {s : State} {m : MethodId} {args : Array Value} {below : List Frame} {meth : Method} {c : Code} {D : va_G} {A : Nat → Prop} {Q : State → Prop} {cy : Nat → ClassId} {ad : Nat → Nat} {res : Int32 × St_} (C : vv_X p s m args meth c D (tysW cy) A 2 cX6_year RX6 wsX6_year) (h0 : en_T A s) (hr : rt_I p l e rmX6_year s m args below meth c D A 2 Q cX6_year .int (wM cy ad res.2) res.1) : ∀ (n : Nat) (x1 : Int32) (σ : St_), fX6_year_65  n x1 σ = some res → vv_ p l e rmX6_year s m args below meth c D A 2 Q 0 0 (wM cy ad σ) [(0, .ref (ad 29)), (1, .int x1)] 65 [] := by
  intro n
  induction n with
  | zero =>
    intro x1 σ hF
    cases (show none = some res from hF)
  | succ n ih =>
    intro x1 σ hF
    replace hF : ((if 100 ≤ x1 then fX6_year_89  σ else (gd_ x1 100 fun j7 => (gd_ x1 100 fun j8 => fX6_year_65  n (x1 + 1) (uM σ 18 j8 (vp_nar .boolean (sM σ 17 j7)))))) : Option (Int32 × St_)) = some res := hF
    refine vv_iload_n C dX6_year_65 1 rfl ?_
    refine vv_bipush (v := 100) C dX6_year_66 (by decide) ?_
    refine vv_icmp_ge (tgt := 89) C dX6_year_68 (by decide) hF (fun c9 hF => ?_) (fun c9 hF => ?_)
    · refine vv_lv [0] rfl ?_
      exact vX6_year_89 C h0 hr  σ  hF
    · refine vv_aload_n C dX6_year_71 0 rfl ?_
      refine vv_get (v := .ref (ad 18)) C (hi_X6_year_X6) 25 (wM_g29 cy ad _) rfl 18 (by decide) (List.mem_of_getElem? (i := 5) rfl) rfl dX6_year_72 ?_
      refine vv_iload_n C dX6_year_75 1 rfl ?_
      refine vv_aload_n C dX6_year_76 0 rfl ?_
      refine vv_get (v := .ref (ad 17)) C (hi_X6_year_X6) 25 (wM_g29 cy ad _) rfl 17 (by decide) (List.mem_of_getElem? (i := 6) rfl) rfl dX6_year_77 ?_
      refine vv_iload_n C dX6_year_80 1 rfl ?_
      refine vv_zald C 13 1 (wM_g17 cy ad _) (tysW_1 cy) hF dX6_year_81 (fun j7 hj7 hF => ?_)
      refine vv_zast (w' := fun j8 => (wM cy ad (uM σ 18 j8 (vp_nar .boolean (sM σ 17 j7))))) C 14 1 (wM_g18 cy ad _) (tysW_1 cy) hF dX6_year_82 (fun _ => wM_a18 _ _ _ _) (fun j8 hj8 hF => ?_)
      refine vv_iinc (q := 1) (v := x1 + 1) (lv' := [(1, .int (x1 + 1)), (0, .ref (ad 29))]) C dX6_year_83 rfl rfl (by decide) rfl ?_
      refine vv_goto (tgt := 65) C dX6_year_86 (by decide) ?_
      refine vv_lv [1, 0] rfl ?_
      exact ih (x1 + 1) (uM σ 18 j8 (vp_nar .boolean (sM σ 17 j7)))  hF
set_option maxHeartbeats 4000000 in
set_option maxRecDepth 20000 in
theorem vX6_year_63 {p : Program} {l : Launch} {e : Env} {s : State} {m : MethodId} {args : Array Value} {below : List Frame} {meth : Method} {c : Code} {D : va_G} {A : Nat → Prop} {Q : State → Prop} {cy : Nat → ClassId} {ad : Nat → Nat} {res : Int32 × St_} (C : vv_X p s m args meth c D (tysW cy) A 2 cX6_year RX6 wsX6_year) (h0 : en_T A s) (hr : rt_I p l e rmX6_year s m args below meth c D A 2 Q cX6_year .int (wM cy ad res.2) res.1) : ∀ (σ : St_), fX6_year_63  σ = some res → vv_ p l e rmX6_year s m args below meth c D A 2 Q 0 0 (wM cy ad σ) [(0, .ref (ad 29))] 63 [] := by
  intro σ hF
  replace hF : (fX6_year_65  FU_ 0 σ : Option (Int32 × St_)) = some res := hF
  refine vv_iconst (v := 0) C dX6_year_63 (by decide) ?_
  refine vv_istore_n (lv' := [(1, .int 0), (0, .ref (ad 29))]) C dX6_year_64 (by decide) rfl ?_
  refine vv_lv [1, 0] rfl ?_
  exact vX6_year_65 C h0 hr  FU_ 0 σ  hF
set_option maxHeartbeats 4000000 in
set_option maxRecDepth 20000 in
theorem vX6_year_42 {p : Program} {l : Launch} {e : Env} {s : State} {m : MethodId} {args : Array Value} {below : List Frame} {meth : Method} {c : Code} {D : va_G} {A : Nat → Prop} {Q : State → Prop} {cy : Nat → ClassId} {ad : Nat → Nat} {res : Int32 × St_} (C : vv_X p s m args meth c D (tysW cy) A 2 cX6_year RX6 wsX6_year) (h0 : en_T A s) (hr : rt_I p l e rmX6_year s m args below meth c D A 2 Q cX6_year .int (wM cy ad res.2) res.1) : ∀ (n : Nat) (x1 : Int32) (σ : St_), fX6_year_42  n x1 σ = some res → vv_ p l e rmX6_year s m args below meth c D A 2 Q 0 0 (wM cy ad σ) [(0, .ref (ad 29)), (1, .int x1)] 42 [] := by
  intro n
  induction n with
  | zero =>
    intro x1 σ hF
    cases (show none = some res from hF)
  | succ n ih =>
    intro x1 σ hF
    replace hF : ((if (sS σ 2) ≤ x1 then fX6_year_63  σ else (gd_ x1 10 fun j5 => fX6_year_42  n (x1 + 1) (uM σ 15 j5 0))) : Option (Int32 × St_)) = some res := hF
    refine vv_iload_n C dX6_year_42 1 rfl ?_
    refine vv_aload_n C dX6_year_43 0 rfl ?_
    refine vv_get (v := .int (sS σ 2)) C (hi_X6_year_X6) 25 (wM_g29 cy ad _) rfl 2 (by decide) (List.mem_of_getElem? (i := 3) rfl) rfl dX6_year_44 ?_
    refine vv_icmp_ge (tgt := 63) C dX6_year_47 (by decide) hF (fun c6 hF => ?_) (fun c6 hF => ?_)
    · refine vv_lv [0] rfl ?_
      exact vX6_year_63 C h0 hr  σ  hF
    · refine vv_aload_n C dX6_year_50 0 rfl ?_
      refine vv_get (v := .ref (ad 15)) C (hi_X6_year_X6) 25 (wM_g29 cy ad _) rfl 15 (by decide) (List.mem_of_getElem? (i := 4) rfl) rfl dX6_year_51 ?_
      refine vv_iload_n C dX6_year_54 1 rfl ?_
      refine vv_iconst (v := 0) C dX6_year_55 (by decide) ?_
      refine vv_iast (w' := fun j5 => (wM cy ad (uM σ 15 j5 0))) C 11 0 (wM_g15 cy ad _) (tysW_0 cy) hF dX6_year_56 (fun _ => wM_a15 _ _ _ _) (fun j5 hj5 hF => ?_)
      refine vv_iinc (q := 1) (v := x1 + 1) (lv' := [(1, .int (x1 + 1)), (0, .ref (ad 29))]) C dX6_year_57 rfl rfl (by decide) rfl ?_
      refine vv_goto (tgt := 42) C dX6_year_60 (by decide) ?_
      refine vv_lv [1, 0] rfl ?_
      exact ih (x1 + 1) (uM σ 15 j5 0)  hF
set_option maxHeartbeats 4000000 in
set_option maxRecDepth 20000 in
theorem vX6_year_40 {p : Program} {l : Launch} {e : Env} {s : State} {m : MethodId} {args : Array Value} {below : List Frame} {meth : Method} {c : Code} {D : va_G} {A : Nat → Prop} {Q : State → Prop} {cy : Nat → ClassId} {ad : Nat → Nat} {res : Int32 × St_} (C : vv_X p s m args meth c D (tysW cy) A 2 cX6_year RX6 wsX6_year) (h0 : en_T A s) (hr : rt_I p l e rmX6_year s m args below meth c D A 2 Q cX6_year .int (wM cy ad res.2) res.1) : ∀ (σ : St_), fX6_year_40  σ = some res → vv_ p l e rmX6_year s m args below meth c D A 2 Q 0 0 (wM cy ad σ) [(0, .ref (ad 29))] 40 [] := by
  intro σ hF
  replace hF : (fX6_year_42  FU_ 0 σ : Option (Int32 × St_)) = some res := hF
  refine vv_iconst (v := 0) C dX6_year_40 (by decide) ?_
  refine vv_istore_n (lv' := [(1, .int 0), (0, .ref (ad 29))]) C dX6_year_41 (by decide) rfl ?_
  refine vv_lv [1, 0] rfl ?_
  exact vX6_year_42 C h0 hr  FU_ 0 σ  hF
set_option maxHeartbeats 4000000 in
set_option maxRecDepth 20000 in
theorem vX6_year_21 {p : Program} {l : Launch} {e : Env} {s : State} {m : MethodId} {args : Array Value} {below : List Frame} {meth : Method} {c : Code} {D : va_G} {A : Nat → Prop} {Q : State → Prop} {cy : Nat → ClassId} {ad : Nat → Nat} {res : Int32 × St_} (C : vv_X p s m args meth c D (tysW cy) A 2 cX6_year RX6 wsX6_year) (h0 : en_T A s) (hr : rt_I p l e rmX6_year s m args below meth c D A 2 Q cX6_year .int (wM cy ad res.2) res.1) : ∀ (n : Nat) (x1 : Int32) (σ : St_), fX6_year_21  n x1 σ = some res → vv_ p l e rmX6_year s m args below meth c D A 2 Q 0 0 (wM cy ad σ) [(0, .ref (ad 29)), (1, .int x1)] 21 [] := by
  intro n
  induction n with
  | zero =>
    intro x1 σ hF
    cases (show none = some res from hF)
  | succ n ih =>
    intro x1 σ hF
    replace hF : ((if (sS σ 2) ≤ x1 then fX6_year_40  σ else (bn_ (fX6_goesBy x1 σ) fun r3 => fX6_year_21  n (x1 + 1) r3)) : Option (Int32 × St_)) = some res := hF
    refine vv_iload_n C dX6_year_21 1 rfl ?_
    refine vv_aload_n C dX6_year_22 0 rfl ?_
    refine vv_get (v := .int (sS σ 2)) C (hi_X6_year_X6) 25 (wM_g29 cy ad _) rfl 2 (by decide) (List.mem_of_getElem? (i := 3) rfl) rfl dX6_year_23 ?_
    refine vv_icmp_ge (tgt := 40) C dX6_year_26 (by decide) hF (fun c4 hF => ?_) (fun c4 hF => ?_)
    · refine vv_lv [0] rfl ?_
      exact vX6_year_40 C h0 hr  σ  hF
    · refine vv_aload_n C dX6_year_29 0 rfl ?_
      refine vv_iload_n C dX6_year_30 1 rfl ?_
      refine vv_callVv  (fun r3 => (wM cy ad r3)) C en_ok h0 [.int x1] [] 1 hF (fun r3 hr3 => kX6_goesBy l D cy ad x1 σ r3  hr3) gX6_year_X6_goesBy rfl rfl rfl (by decide +kernel) ⟨by decide, by decide⟩ 25 (wM_g29 cy ad _) rfl rfl rfl (Nat.le_of_ble_eq_true rfl) dX6_year_31 ⟨by decide, by decide⟩ (fun r3 hqr3 hF => ?_)
      refine vv_iinc (q := 1) (v := x1 + 1) (lv' := [(1, .int (x1 + 1)), (0, .ref (ad 29))]) C dX6_year_34 rfl rfl (by decide) rfl ?_
      refine vv_goto (tgt := 21) C dX6_year_37 (by decide) ?_
      refine vv_lv [1, 0] rfl ?_
      exact ih (x1 + 1) r3  hF
set_option maxHeartbeats 4000000 in
set_option maxRecDepth 20000 in
theorem kX6_year (l : Launch) (D : va_G) (cy : Nat → ClassId) (ad : Nat → Nat) (σ : St_) (res : Int32 × St_)  (hF : fX6_year σ = some res) : ct_I l D (tysW cy) en_T yX6_year wsX6_year rmX6_year [.ref (ad 29)] (wM cy ad σ) res.1 (wM cy ad res.2) := by
  refine mt_I (by decide) rfl (Nat.le_of_ble_eq_true rfl) ?_
  intro p e s m args below meth c A Q C h0 hr
  replace C : vv_X p s m args meth c D (tysW cy) A 2 cX6_year RX6 wsX6_year := C
  replace hF : ((if (sS σ 4) = 0 then some ((-1), σ) else (if (sS σ 3) = 500 then some ((-1), σ) else fX6_year_21  FU_ 0 σ)) : Option (Int32 × St_)) = some res := hF
  refine vv_lv [0] (lv' := [(0, .ref (ad 29))]) rfl ?_
  refine vv_aload_n C dX6_year_0 0 rfl ?_
  refine vv_get (v := .int (sS σ 4)) C (hi_X6_year_X6) 25 (wM_g29 cy ad _) rfl 4 (by decide) (List.mem_of_getElem? (i := 1) rfl) rfl dX6_year_1 ?_
  refine vv_if_eq (tgt := 17) C dX6_year_4 (by decide) hF (fun c2 hF => ?_) (fun c2 hF => ?_)
  · refine vv_iconst (v := (-1)) C dX6_year_17 (by decide) ?_
    cases hF
    exact hr _ _ dX6_year_18 rfl
  · refine vv_aload_n C dX6_year_7 0 rfl ?_
    refine vv_get (v := .int (sS σ 3)) C (hi_X6_year_X6) 25 (wM_g29 cy ad _) rfl 3 (by decide) (List.mem_of_getElem? (i := 2) rfl) rfl dX6_year_8 ?_
    refine vv_sipush (v := 500) C dX6_year_11 (by decide) ?_
    refine vv_icmp_ne (tgt := 19) C dX6_year_14 (by decide) hF (fun c1 hF => ?_) (fun c1 hF => ?_)
    · refine vv_iconst (v := 0) C dX6_year_19 (by decide) ?_
      refine vv_istore_n (lv' := [(1, .int 0), (0, .ref (ad 29))]) C dX6_year_20 (by decide) rfl ?_
      refine vv_lv [1, 0] rfl ?_
      exact vX6_year_21 C h0 hr  FU_ 0 σ  hF
    · refine vv_iconst (v := (-1)) C dX6_year_17 (by decide) ?_
      cases hF
      exact hr _ _ dX6_year_18 rfl
/-! X6_sealed -/
abbrev rmX6_sealed : Room := { frames := 1, cells := 0, slots := 0, locals := 22 }
theorem hi_X6_sealed_X6 : ∀ w ∈ wsX60, w ∈ wsX6_sealed := fun w h => List.mem_cons_of_mem _ (List.mem_append_right _ h)
def fX6_sealed_62 (σ : St_) (k18 : Int32 → Int32 → Int32 → Int32 → Option Int32) (x1 : Int32) (x2 : Int32) (x3 : Int32) (x4 : Int32) : Option Int32 := k18 x1 x2 x3 (x4 + 1)
def fX6_sealed_60 (σ : St_) (k18 : Int32 → Int32 → Int32 → Int32 → Option Int32) (x1 : Int32) (x2 : Int32) (x4 : Int32) (t0 : Int32) (t1 : Int32) : Option Int32 := fX6_sealed_62 σ (k18) x1 x2 (t1 + t0) x4
def fX6_sealed_68 (σ : St_) (x2 : Int32) (x3 : Int32) : Option Int32 := (if x2 ≤ 0 then some 0 else (gd_ 5 6 fun j8 => (if (100 * x3) < ((sM σ 5 j8) * x2) then some 0 else some 1)))
def fX6_sealed_18 (σ : St_) : Nat → Int32 → Int32 → Int32 → Int32 → Option Int32
  | 0, _, _, _, _ => none
  | n + 1, x1, x2, x3, x4 => (if (sS σ 2) ≤ x4 then fX6_sealed_68 σ  x2 x3 else (gd_ x4 10 fun j3 => (if (sM σ 8 j3) = x1 then (gd_ x4 10 fun j4 => (if (sM σ 10 j4) = 0 then fX6_sealed_60 σ (fX6_sealed_18 σ  n) x1 (x2 + 1) x4 0 x3 else fX6_sealed_60 σ (fX6_sealed_18 σ  n) x1 (x2 + 1) x4 1 x3)) else fX6_sealed_62 σ (fX6_sealed_18 σ  n) x1 x2 x3 x4)))
def fX6_sealed (x1 : Int32) (σ : St_) : Option Int32 := (bn_ (fX6_lies x1 0 3) fun r1 => (if r1 = 0 then some (-1) else fX6_sealed_18 σ  FU_ x1 0 0 0))
set_option maxHeartbeats 4000000 in
set_option maxRecDepth 20000 in
theorem vX6_sealed_62 {p : Program} {l : Launch} {e : Env} {s : State} {m : MethodId} {args : Array Value} {below : List Frame} {meth : Method} {c : Code} {D : va_G} {A : Nat → Prop} {Q : State → Prop} {cy : Nat → ClassId} {ad : Nat → Nat} {k18 : Int32 → Int32 → Int32 → Int32 → Option Int32} {σ : St_} {res : Int32} (C : vv_X p s m args meth c D (tysW cy) A 5 cX6_sealed RX6 wsX6_sealed) (h0 : en_T A s) (hr : rt_I p l e rmX6_sealed s m args below meth c D A 5 Q cX6_sealed .int (wM cy ad σ) res) (hk18 : ∀ (x1 : Int32) (x2 : Int32) (x3 : Int32) (x4 : Int32), k18 x1 x2 x3 x4 = some res → vv_ p l e rmX6_sealed s m args below meth c D A 5 Q 0 0 (wM cy ad σ) [(0, .ref (ad 29)), (1, .int x1), (2, .int x2), (3, .int x3), (4, .int x4)] 18 []) : ∀ (x1 : Int32) (x2 : Int32) (x3 : Int32) (x4 : Int32), fX6_sealed_62 σ k18 x1 x2 x3 x4 = some res → vv_ p l e rmX6_sealed s m args below meth c D A 5 Q 0 0 (wM cy ad σ) [(0, .ref (ad 29)), (1, .int x1), (2, .int x2), (3, .int x3), (4, .int x4)] 62 [] := by
  intro x1 x2 x3 x4 hF
  replace hF : (k18 x1 x2 x3 (x4 + 1) : Option Int32) = some res := hF
  refine vv_iinc (q := 4) (v := x4 + 1) (lv' := [(4, .int (x4 + 1)), (0, .ref (ad 29)), (1, .int x1), (2, .int x2), (3, .int x3)]) C dX6_sealed_62 rfl rfl (by decide) rfl ?_
  refine vv_goto (tgt := 18) C dX6_sealed_65 (by decide) ?_
  refine vv_lv [1, 2, 3, 4, 0] rfl ?_
  exact hk18 x1 x2 x3 (x4 + 1)  hF
set_option maxHeartbeats 4000000 in
set_option maxRecDepth 20000 in
theorem vX6_sealed_60 {p : Program} {l : Launch} {e : Env} {s : State} {m : MethodId} {args : Array Value} {below : List Frame} {meth : Method} {c : Code} {D : va_G} {A : Nat → Prop} {Q : State → Prop} {cy : Nat → ClassId} {ad : Nat → Nat} {k18 : Int32 → Int32 → Int32 → Int32 → Option Int32} {σ : St_} {res : Int32} (C : vv_X p s m args meth c D (tysW cy) A 5 cX6_sealed RX6 wsX6_sealed) (h0 : en_T A s) (hr : rt_I p l e rmX6_sealed s m args below meth c D A 5 Q cX6_sealed .int (wM cy ad σ) res) (hk18 : ∀ (x1 : Int32) (x2 : Int32) (x3 : Int32) (x4 : Int32), k18 x1 x2 x3 x4 = some res → vv_ p l e rmX6_sealed s m args below meth c D A 5 Q 0 0 (wM cy ad σ) [(0, .ref (ad 29)), (1, .int x1), (2, .int x2), (3, .int x3), (4, .int x4)] 18 []) : ∀ (x1 : Int32) (x2 : Int32) (x4 : Int32) (t0 : Int32) (t1 : Int32), fX6_sealed_60 σ k18 x1 x2 x4 t0 t1 = some res → vv_ p l e rmX6_sealed s m args below meth c D A 5 Q 0 0 (wM cy ad σ) [(0, .ref (ad 29)), (1, .int x1), (2, .int x2), (4, .int x4)] 60 [.int t0, .int t1] := by
  intro x1 x2 x4 t0 t1 hF
  replace hF : (fX6_sealed_62 σ (k18) x1 x2 (t1 + t0) x4 : Option Int32) = some res := hF
  refine vv_iadd C dX6_sealed_60 ?_
  refine vv_istore_n (lv' := [(3, .int (t1 + t0)), (0, .ref (ad 29)), (1, .int x1), (2, .int x2), (4, .int x4)]) C dX6_sealed_61 (by decide) rfl ?_
  refine vv_lv [1, 2, 3, 0, 4] rfl ?_
  exact vX6_sealed_62 C h0 hr (hk18) x1 x2 (t1 + t0) x4  hF
set_option maxHeartbeats 4000000 in
set_option maxRecDepth 20000 in
theorem vX6_sealed_68 {p : Program} {l : Launch} {e : Env} {s : State} {m : MethodId} {args : Array Value} {below : List Frame} {meth : Method} {c : Code} {D : va_G} {A : Nat → Prop} {Q : State → Prop} {cy : Nat → ClassId} {ad : Nat → Nat} {σ : St_} {res : Int32} (C : vv_X p s m args meth c D (tysW cy) A 5 cX6_sealed RX6 wsX6_sealed) (h0 : en_T A s) (hr : rt_I p l e rmX6_sealed s m args below meth c D A 5 Q cX6_sealed .int (wM cy ad σ) res) : ∀ (x2 : Int32) (x3 : Int32), fX6_sealed_68 σ  x2 x3 = some res → vv_ p l e rmX6_sealed s m args below meth c D A 5 Q 0 0 (wM cy ad σ) [(0, .ref (ad 29)), (2, .int x2), (3, .int x3)] 68 [] := by
  intro x2 x3 hF
  replace hF : ((if x2 ≤ 0 then some 0 else (gd_ 5 6 fun j8 => (if (100 * x3) < ((sM σ 5 j8) * x2) then some 0 else some 1))) : Option Int32) = some res := hF
  refine vv_iload_n C dX6_sealed_68 1 rfl ?_
  refine vv_if_le (tgt := 91) C dX6_sealed_69 (by decide) hF (fun c10 hF => ?_) (fun c10 hF => ?_)
  · refine vv_iconst (v := 0) C dX6_sealed_91 (by decide) ?_
    cases hF
    exact hr _ _ dX6_sealed_92 rfl
  · refine vv_bipush (v := 100) C dX6_sealed_72 (by decide) ?_
    refine vv_iload_n C dX6_sealed_74 2 rfl ?_
    refine vv_imul C dX6_sealed_75 ?_
    refine vv_aload_n C dX6_sealed_76 0 rfl ?_
    refine vv_get (v := .ref (ad 5)) C (hi_X6_sealed_X6) 25 (wM_g29 cy ad _) rfl 5 (by decide) (List.mem_of_getElem? (i := 4) rfl) rfl dX6_sealed_77 ?_
    refine vv_iconst (v := 5) C dX6_sealed_80 (by decide) ?_
    refine vv_iald C 1 0 (wM_g5 cy ad _) (tysW_0 cy) hF dX6_sealed_81 (fun j8 hj8 hF => ?_)
    refine vv_iload_n C dX6_sealed_82 1 rfl ?_
    refine vv_imul C dX6_sealed_83 ?_
    refine vv_icmp_lt (tgt := 91) C dX6_sealed_84 (by decide) hF (fun c9 hF => ?_) (fun c9 hF => ?_)
    · refine vv_iconst (v := 0) C dX6_sealed_91 (by decide) ?_
      cases hF
      exact hr _ _ dX6_sealed_92 rfl
    · refine vv_iconst (v := 1) C dX6_sealed_87 (by decide) ?_
      refine vv_goto (tgt := 92) C dX6_sealed_88 (by decide) ?_
      cases hF
      exact hr _ _ dX6_sealed_92 rfl
set_option maxHeartbeats 4000000 in
set_option maxRecDepth 20000 in
theorem vX6_sealed_18 {p : Program} {l : Launch} {e : Env} {s : State} {m : MethodId} {args : Array Value} {below : List Frame} {meth : Method} {c : Code} {D : va_G} {A : Nat → Prop} {Q : State → Prop} {cy : Nat → ClassId} {ad : Nat → Nat} {σ : St_} {res : Int32} (C : vv_X p s m args meth c D (tysW cy) A 5 cX6_sealed RX6 wsX6_sealed) (h0 : en_T A s) (hr : rt_I p l e rmX6_sealed s m args below meth c D A 5 Q cX6_sealed .int (wM cy ad σ) res) : ∀ (n : Nat) (x1 : Int32) (x2 : Int32) (x3 : Int32) (x4 : Int32), fX6_sealed_18 σ  n x1 x2 x3 x4 = some res → vv_ p l e rmX6_sealed s m args below meth c D A 5 Q 0 0 (wM cy ad σ) [(0, .ref (ad 29)), (1, .int x1), (2, .int x2), (3, .int x3), (4, .int x4)] 18 [] := by
  intro n
  induction n with
  | zero =>
    intro x1 x2 x3 x4 hF
    cases (show none = some res from hF)
  | succ n ih =>
    intro x1 x2 x3 x4 hF
    replace hF : ((if (sS σ 2) ≤ x4 then fX6_sealed_68 σ  x2 x3 else (gd_ x4 10 fun j3 => (if (sM σ 8 j3) = x1 then (gd_ x4 10 fun j4 => (if (sM σ 10 j4) = 0 then fX6_sealed_60 σ (fX6_sealed_18 σ  n) x1 (x2 + 1) x4 0 x3 else fX6_sealed_60 σ (fX6_sealed_18 σ  n) x1 (x2 + 1) x4 1 x3)) else fX6_sealed_62 σ (fX6_sealed_18 σ  n) x1 x2 x3 x4))) : Option Int32) = some res := hF
    refine vv_iload C dX6_sealed_18 4 rfl ?_
    refine vv_aload_n C dX6_sealed_20 0 rfl ?_
    refine vv_get (v := .int (sS σ 2)) C (hi_X6_sealed_X6) 25 (wM_g29 cy ad _) rfl 2 (by decide) (List.mem_of_getElem? (i := 1) rfl) rfl dX6_sealed_21 ?_
    refine vv_icmp_ge (tgt := 68) C dX6_sealed_24 (by decide) hF (fun c7 hF => ?_) (fun c7 hF => ?_)
    · refine vv_lv [0, 2, 3] rfl ?_
      exact vX6_sealed_68 C h0 hr  x2 x3  hF
    · refine vv_aload_n C dX6_sealed_27 0 rfl ?_
      refine vv_get (v := .ref (ad 8)) C (hi_X6_sealed_X6) 25 (wM_g29 cy ad _) rfl 8 (by decide) (List.mem_of_getElem? (i := 2) rfl) rfl dX6_sealed_28 ?_
      refine vv_iload C dX6_sealed_31 4 rfl ?_
      refine vv_iald C 4 0 (wM_g8 cy ad _) (tysW_0 cy) hF dX6_sealed_33 (fun j3 hj3 hF => ?_)
      refine vv_iload_n C dX6_sealed_34 1 rfl ?_
      refine vv_icmp_eq (tgt := 41) C dX6_sealed_35 (by decide) hF (fun c6 hF => ?_) (fun c6 hF => ?_)
      · refine vv_iinc (q := 2) (v := x2 + 1) (lv' := [(2, .int (x2 + 1)), (0, .ref (ad 29)), (1, .int x1), (3, .int x3), (4, .int x4)]) C dX6_sealed_41 rfl rfl (by decide) rfl ?_
        refine vv_iload_n C dX6_sealed_44 3 rfl ?_
        refine vv_aload_n C dX6_sealed_45 1 rfl ?_
        refine vv_get (v := .ref (ad 10)) C (hi_X6_sealed_X6) 25 (wM_g29 cy ad _) rfl 10 (by decide) (List.mem_of_getElem? (i := 3) rfl) rfl dX6_sealed_46 ?_
        refine vv_iload C dX6_sealed_49 4 rfl ?_
        refine vv_zald C 6 1 (wM_g10 cy ad _) (tysW_1 cy) hF dX6_sealed_51 (fun j4 hj4 hF => ?_)
        refine vv_if_eq (tgt := 59) C dX6_sealed_52 (by decide) hF (fun c5 hF => ?_) (fun c5 hF => ?_)
        · refine vv_iconst (v := 0) C dX6_sealed_59 (by decide) ?_
          refine vv_lv [1, 2, 0, 4] rfl ?_
          exact vX6_sealed_60 C h0 hr (ih) x1 (x2 + 1) x4 0 x3  hF
        · refine vv_iconst (v := 1) C dX6_sealed_55 (by decide) ?_
          refine vv_goto (tgt := 60) C dX6_sealed_56 (by decide) ?_
          refine vv_lv [1, 2, 0, 4] rfl ?_
          exact vX6_sealed_60 C h0 hr (ih) x1 (x2 + 1) x4 1 x3  hF
      · refine vv_goto (tgt := 62) C dX6_sealed_38 (by decide) ?_
        refine vv_lv [0, 1, 2, 3, 4] rfl ?_
        exact vX6_sealed_62 C h0 hr (ih) x1 x2 x3 x4  hF
set_option maxHeartbeats 4000000 in
set_option maxRecDepth 20000 in
theorem kX6_sealed (l : Launch) (D : va_G) (cy : Nat → ClassId) (ad : Nat → Nat) (x1 : Int32) (σ : St_) (res : Int32)  (hF : fX6_sealed x1 σ = some res) : ct_I l D (tysW cy) en_T yX6_sealed wsX6_sealed rmX6_sealed [.ref (ad 29), .int x1] (wM cy ad σ) res (wM cy ad σ) := by
  refine mt_I (by decide) rfl (Nat.le_of_ble_eq_true rfl) ?_
  intro p e s m args below meth c A Q C h0 hr
  replace C : vv_X p s m args meth c D (tysW cy) A 5 cX6_sealed RX6 wsX6_sealed := C
  replace hF : ((bn_ (fX6_lies x1 0 3) fun r1 => (if r1 = 0 then some (-1) else fX6_sealed_18 σ  FU_ x1 0 0 0)) : Option Int32) = some res := hF
  refine vv_lv [0, 1] (lv' := [(0, .ref (ad 29)), (1, .int x1)]) rfl ?_
  refine vv_iload_n C dX6_sealed_0 1 rfl ?_
  refine vv_iconst (v := 0) C dX6_sealed_1 (by decide) ?_
  refine vv_iconst (v := 3) C dX6_sealed_2 (by decide) ?_
  refine vv_callSi (fun r1 => r1) (fun r1 => (wM cy ad σ)) C en_ok h0 [.int x1, .int 0, .int 3] [] 3 hF (fun r1 hr1 => kX6_lies l D (tysW cy) en_ok (wM cy ad σ) x1 0 3 r1  hr1) gX6_sealed_X6_lies rfl rfl rfl (by decide +kernel) ⟨by decide, by decide⟩ rfl rfl (Nat.le_of_ble_eq_true rfl) dX6_sealed_3 ⟨by decide, by decide⟩ (fun r1 hqr1 hF => ?_)
  refine vv_if_ne (tgt := 11) C dX6_sealed_6 (by decide) hF (fun c2 hF => ?_) (fun c2 hF => ?_)
  · refine vv_iconst (v := 0) C dX6_sealed_11 (by decide) ?_
    refine vv_istore_n (lv' := [(2, .int 0), (0, .ref (ad 29)), (1, .int x1)]) C dX6_sealed_12 (by decide) rfl ?_
    refine vv_iconst (v := 0) C dX6_sealed_13 (by decide) ?_
    refine vv_istore_n (lv' := [(3, .int 0), (2, .int 0), (0, .ref (ad 29)), (1, .int x1)]) C dX6_sealed_14 (by decide) rfl ?_
    refine vv_iconst (v := 0) C dX6_sealed_15 (by decide) ?_
    refine vv_istore (lv' := [(4, .int 0), (3, .int 0), (2, .int 0), (0, .ref (ad 29)), (1, .int x1)]) C dX6_sealed_16 (by decide) rfl ?_
    refine vv_lv [3, 4, 2, 1, 0] rfl ?_
    exact vX6_sealed_18 C h0 hr  FU_ x1 0 0 0  hF
  · refine vv_iconst (v := (-1)) C dX6_sealed_9 (by decide) ?_
    cases hF
    exact hr _ _ dX6_sealed_10 rfl
/-! X6_look -/
abbrev rmX6_look : Room := { frames := 2, cells := 0, slots := 0, locals := 45 }
theorem hi_X6_look_X6 : ∀ w ∈ wsX60, w ∈ wsX6_look := fun w h => List.mem_cons_of_mem _ (List.mem_append_right _ h)
def fX6_look_164 (σ : St_) (k139 : Int32 → Int32 → Int32 → Option Int32) (x1 : Int32) (x4 : Int32) (t0 : Int32) (t1 : Int32) : Option Int32 := k139 x1 (t1 + t0) (x4 + 1)
def fX6_look_139 (σ : St_) : Nat → Int32 → Int32 → Int32 → Option Int32
  | 0, _, _, _ => none
  | n + 1, x1, x3, x4 => (if (sS σ 2) ≤ x4 then some x3 else (bn_ (fX6_isVisit x1 x4 σ) fun r23 => (if r23 = 0 then fX6_look_164 σ (fX6_look_139 σ  n) x1 x4 0 x3 else fX6_look_164 σ (fX6_look_139 σ  n) x1 x4 1 x3)))
def fX6_look (x1 : Int32) (x2 : Int32) (σ : St_) : Option Int32 := (bn_ (fX6_isFarm x1 σ) fun r1 => (if r1 = 0 then some (-1) else (if x2 = 0 then (gd_ x1 10 fun j2 => some (sM σ 7 j2)) else if x2 = 1 then (gd_ x1 10 fun j4 => some (sM σ 8 j4)) else if x2 = 2 then (gd_ x1 10 fun j6 => (if (sM σ 10 j6) = 0 then some 0 else some 1)) else if x2 = 3 then (gd_ x1 10 fun j9 => some (sM σ 11 j9)) else if x2 = 4 then (gd_ x1 10 fun j11 => some (sM σ 12 j11)) else if x2 = 5 then (gd_ x1 10 fun j13 => some (sM σ 13 j13)) else if x2 = 6 then (gd_ x1 10 fun j15 => some (sM σ 14 j15)) else if x2 = 7 then (gd_ x1 10 fun j17 => some (sM σ 15 j17)) else if x2 = 8 then (bn_ (fX6_visitorsOf x1 σ) fun r19 => some r19) else if x2 = 9 then fX6_look_139 σ  FU_ x1 0 0 else some (-1))))
set_option maxHeartbeats 4000000 in
set_option maxRecDepth 20000 in
theorem vX6_look_164 {p : Program} {l : Launch} {e : Env} {s : State} {m : MethodId} {args : Array Value} {below : List Frame} {meth : Method} {c : Code} {D : va_G} {A : Nat → Prop} {Q : State → Prop} {cy : Nat → ClassId} {ad : Nat → Nat} {k139 : Int32 → Int32 → Int32 → Option Int32} {σ : St_} {res : Int32} (C : vv_X p s m args meth c D (tysW cy) A 5 cX6_look RX6 wsX6_look) (h0 : en_T A s) (hr : rt_I p l e rmX6_look s m args below meth c D A 5 Q cX6_look .int (wM cy ad σ) res) (hk139 : ∀ (x1 : Int32) (x3 : Int32) (x4 : Int32), k139 x1 x3 x4 = some res → vv_ p l e rmX6_look s m args below meth c D A 5 Q 0 0 (wM cy ad σ) [(0, .ref (ad 29)), (1, .int x1), (3, .int x3), (4, .int x4)] 139 []) : ∀ (x1 : Int32) (x4 : Int32) (t0 : Int32) (t1 : Int32), fX6_look_164 σ k139 x1 x4 t0 t1 = some res → vv_ p l e rmX6_look s m args below meth c D A 5 Q 0 0 (wM cy ad σ) [(0, .ref (ad 29)), (1, .int x1), (4, .int x4)] 164 [.int t0, .int t1] := by
  intro x1 x4 t0 t1 hF
  replace hF : (k139 x1 (t1 + t0) (x4 + 1) : Option Int32) = some res := hF
  refine vv_iadd C dX6_look_164 ?_
  refine vv_istore_n (lv' := [(3, .int (t1 + t0)), (0, .ref (ad 29)), (1, .int x1), (4, .int x4)]) C dX6_look_165 (by decide) rfl ?_
  refine vv_iinc (q := 3) (v := x4 + 1) (lv' := [(4, .int (x4 + 1)), (3, .int (t1 + t0)), (0, .ref (ad 29)), (1, .int x1)]) C dX6_look_166 rfl rfl (by decide) rfl ?_
  refine vv_goto (tgt := 139) C dX6_look_169 (by decide) ?_
  refine vv_lv [2, 3, 1, 0] rfl ?_
  exact hk139 x1 (t1 + t0) (x4 + 1)  hF
set_option maxHeartbeats 4000000 in
set_option maxRecDepth 20000 in
theorem vX6_look_139 {p : Program} {l : Launch} {e : Env} {s : State} {m : MethodId} {args : Array Value} {below : List Frame} {meth : Method} {c : Code} {D : va_G} {A : Nat → Prop} {Q : State → Prop} {cy : Nat → ClassId} {ad : Nat → Nat} {σ : St_} {res : Int32} (C : vv_X p s m args meth c D (tysW cy) A 5 cX6_look RX6 wsX6_look) (h0 : en_T A s) (hr : rt_I p l e rmX6_look s m args below meth c D A 5 Q cX6_look .int (wM cy ad σ) res) : ∀ (n : Nat) (x1 : Int32) (x3 : Int32) (x4 : Int32), fX6_look_139 σ  n x1 x3 x4 = some res → vv_ p l e rmX6_look s m args below meth c D A 5 Q 0 0 (wM cy ad σ) [(0, .ref (ad 29)), (1, .int x1), (3, .int x3), (4, .int x4)] 139 [] := by
  intro n
  induction n with
  | zero =>
    intro x1 x3 x4 hF
    cases (show none = some res from hF)
  | succ n ih =>
    intro x1 x3 x4 hF
    replace hF : ((if (sS σ 2) ≤ x4 then some x3 else (bn_ (fX6_isVisit x1 x4 σ) fun r23 => (if r23 = 0 then fX6_look_164 σ (fX6_look_139 σ  n) x1 x4 0 x3 else fX6_look_164 σ (fX6_look_139 σ  n) x1 x4 1 x3))) : Option Int32) = some res := hF
    refine vv_iload C dX6_look_139 3 rfl ?_
    refine vv_aload_n C dX6_look_141 0 rfl ?_
    refine vv_get (v := .int (sS σ 2)) C (hi_X6_look_X6) 25 (wM_g29 cy ad _) rfl 2 (by decide) (List.mem_of_getElem? (i := 9) rfl) rfl dX6_look_142 ?_
    refine vv_icmp_ge (tgt := 172) C dX6_look_145 (by decide) hF (fun c25 hF => ?_) (fun c25 hF => ?_)
    · refine vv_iload_n C dX6_look_172 2 rfl ?_
      cases hF
      exact hr _ _ dX6_look_173 rfl
    · refine vv_iload_n C dX6_look_148 2 rfl ?_
      refine vv_aload_n C dX6_look_149 0 rfl ?_
      refine vv_iload_n C dX6_look_150 1 rfl ?_
      refine vv_iload C dX6_look_151 3 rfl ?_
      refine vv_callVi (fun r23 => r23) (fun r23 => (wM cy ad σ)) C en_ok h0 [.int x1, .int x4] [.int x3] 2 hF (fun r23 hr23 => kX6_isVisit l D cy ad x1 x4 σ r23  hr23) gX6_look_X6_isVisit rfl rfl rfl (by decide +kernel) ⟨by decide, by decide⟩ 25 (wM_g29 cy ad _) rfl rfl rfl (Nat.le_of_ble_eq_true rfl) dX6_look_153 ⟨by decide, by decide⟩ (fun r23 hqr23 hF => ?_)
      refine vv_if_eq (tgt := 163) C dX6_look_156 (by decide) hF (fun c24 hF => ?_) (fun c24 hF => ?_)
      · refine vv_iconst (v := 0) C dX6_look_163 (by decide) ?_
        refine vv_lv [0, 1, 3] rfl ?_
        exact vX6_look_164 C h0 hr (ih) x1 x4 0 x3  hF
      · refine vv_iconst (v := 1) C dX6_look_159 (by decide) ?_
        refine vv_goto (tgt := 164) C dX6_look_160 (by decide) ?_
        refine vv_lv [0, 1, 3] rfl ?_
        exact vX6_look_164 C h0 hr (ih) x1 x4 1 x3  hF
set_option maxHeartbeats 4000000 in
set_option maxRecDepth 20000 in
theorem kX6_look (l : Launch) (D : va_G) (cy : Nat → ClassId) (ad : Nat → Nat) (x1 : Int32) (x2 : Int32) (σ : St_) (res : Int32)  (hF : fX6_look x1 x2 σ = some res) : ct_I l D (tysW cy) en_T yX6_look wsX6_look rmX6_look [.ref (ad 29), .int x1, .int x2] (wM cy ad σ) res (wM cy ad σ) := by
  refine mt_I (by decide) rfl (Nat.le_of_ble_eq_true rfl) ?_
  intro p e s m args below meth c A Q C h0 hr
  replace C : vv_X p s m args meth c D (tysW cy) A 5 cX6_look RX6 wsX6_look := C
  replace hF : ((bn_ (fX6_isFarm x1 σ) fun r1 => (if r1 = 0 then some (-1) else (if x2 = 0 then (gd_ x1 10 fun j2 => some (sM σ 7 j2)) else if x2 = 1 then (gd_ x1 10 fun j4 => some (sM σ 8 j4)) else if x2 = 2 then (gd_ x1 10 fun j6 => (if (sM σ 10 j6) = 0 then some 0 else some 1)) else if x2 = 3 then (gd_ x1 10 fun j9 => some (sM σ 11 j9)) else if x2 = 4 then (gd_ x1 10 fun j11 => some (sM σ 12 j11)) else if x2 = 5 then (gd_ x1 10 fun j13 => some (sM σ 13 j13)) else if x2 = 6 then (gd_ x1 10 fun j15 => some (sM σ 14 j15)) else if x2 = 7 then (gd_ x1 10 fun j17 => some (sM σ 15 j17)) else if x2 = 8 then (bn_ (fX6_visitorsOf x1 σ) fun r19 => some r19) else if x2 = 9 then fX6_look_139 σ  FU_ x1 0 0 else some (-1)))) : Option Int32) = some res := hF
  refine vv_lv [0, 1, 2] (lv' := [(0, .ref (ad 29)), (1, .int x1), (2, .int x2)]) rfl ?_
  refine vv_aload_n C dX6_look_0 0 rfl ?_
  refine vv_iload_n C dX6_look_1 1 rfl ?_
  refine vv_callVi (fun r1 => r1) (fun r1 => (wM cy ad σ)) C en_ok h0 [.int x1] [] 1 hF (fun r1 hr1 => kX6_isFarm l D cy ad x1 σ r1  hr1) gX6_look_X6_isFarm rfl rfl rfl (by decide +kernel) ⟨by decide, by decide⟩ 25 (wM_g29 cy ad _) rfl rfl rfl (Nat.le_of_ble_eq_true rfl) dX6_look_2 ⟨by decide, by decide⟩ (fun r1 hqr1 hF => ?_)
  refine vv_if_ne (tgt := 10) C dX6_look_5 (by decide) hF (fun c22 hF => ?_) (fun c22 hF => ?_)
  · refine vv_iload_n C dX6_look_10 2 rfl ?_
    by_cases s3 : x2 = 0
    · rw [if_pos s3] at hF
      refine vv_tableIn (tgt := 64) C 0 s3 dX6_look_11 (by decide +kernel) (by decide +kernel) rfl (by decide) ?_
      refine vv_aload_n C dX6_look_64 0 rfl ?_
      refine vv_get (v := .ref (ad 7)) C (hi_X6_look_X6) 25 (wM_g29 cy ad _) rfl 7 (by decide) (List.mem_of_getElem? (i := 1) rfl) rfl dX6_look_65 ?_
      refine vv_iload_n C dX6_look_68 1 rfl ?_
      refine vv_iald C 3 0 (wM_g7 cy ad _) (tysW_0 cy) hF dX6_look_69 (fun j2 hj2 hF => ?_)
      cases hF
      exact hr _ _ dX6_look_70 rfl
    rw [if_neg s3] at hF
    by_cases s5 : x2 = 1
    · rw [if_pos s5] at hF
      refine vv_tableIn (tgt := 71) C 1 s5 dX6_look_11 (by decide +kernel) (by decide +kernel) rfl (by decide) ?_
      refine vv_aload_n C dX6_look_71 0 rfl ?_
      refine vv_get (v := .ref (ad 8)) C (hi_X6_look_X6) 25 (wM_g29 cy ad _) rfl 8 (by decide) (List.mem_of_getElem? (i := 2) rfl) rfl dX6_look_72 ?_
      refine vv_iload_n C dX6_look_75 1 rfl ?_
      refine vv_iald C 4 0 (wM_g8 cy ad _) (tysW_0 cy) hF dX6_look_76 (fun j4 hj4 hF => ?_)
      cases hF
      exact hr _ _ dX6_look_77 rfl
    rw [if_neg s5] at hF
    by_cases s8 : x2 = 2
    · rw [if_pos s8] at hF
      refine vv_tableIn (tgt := 78) C 2 s8 dX6_look_11 (by decide +kernel) (by decide +kernel) rfl (by decide) ?_
      refine vv_aload_n C dX6_look_78 0 rfl ?_
      refine vv_get (v := .ref (ad 10)) C (hi_X6_look_X6) 25 (wM_g29 cy ad _) rfl 10 (by decide) (List.mem_of_getElem? (i := 3) rfl) rfl dX6_look_79 ?_
      refine vv_iload_n C dX6_look_82 1 rfl ?_
      refine vv_zald C 6 1 (wM_g10 cy ad _) (tysW_1 cy) hF dX6_look_83 (fun j6 hj6 hF => ?_)
      refine vv_if_eq (tgt := 91) C dX6_look_84 (by decide) hF (fun c7 hF => ?_) (fun c7 hF => ?_)
      · refine vv_iconst (v := 0) C dX6_look_91 (by decide) ?_
        cases hF
        exact hr _ _ dX6_look_92 rfl
      · refine vv_iconst (v := 1) C dX6_look_87 (by decide) ?_
        refine vv_goto (tgt := 92) C dX6_look_88 (by decide) ?_
        cases hF
        exact hr _ _ dX6_look_92 rfl
    rw [if_neg s8] at hF
    by_cases s10 : x2 = 3
    · rw [if_pos s10] at hF
      refine vv_tableIn (tgt := 93) C 3 s10 dX6_look_11 (by decide +kernel) (by decide +kernel) rfl (by decide) ?_
      refine vv_aload_n C dX6_look_93 0 rfl ?_
      refine vv_get (v := .ref (ad 11)) C (hi_X6_look_X6) 25 (wM_g29 cy ad _) rfl 11 (by decide) (List.mem_of_getElem? (i := 4) rfl) rfl dX6_look_94 ?_
      refine vv_iload_n C dX6_look_97 1 rfl ?_
      refine vv_iald C 7 0 (wM_g11 cy ad _) (tysW_0 cy) hF dX6_look_98 (fun j9 hj9 hF => ?_)
      cases hF
      exact hr _ _ dX6_look_99 rfl
    rw [if_neg s10] at hF
    by_cases s12 : x2 = 4
    · rw [if_pos s12] at hF
      refine vv_tableIn (tgt := 100) C 4 s12 dX6_look_11 (by decide +kernel) (by decide +kernel) rfl (by decide) ?_
      refine vv_aload_n C dX6_look_100 0 rfl ?_
      refine vv_get (v := .ref (ad 12)) C (hi_X6_look_X6) 25 (wM_g29 cy ad _) rfl 12 (by decide) (List.mem_of_getElem? (i := 5) rfl) rfl dX6_look_101 ?_
      refine vv_iload_n C dX6_look_104 1 rfl ?_
      refine vv_iald C 8 0 (wM_g12 cy ad _) (tysW_0 cy) hF dX6_look_105 (fun j11 hj11 hF => ?_)
      cases hF
      exact hr _ _ dX6_look_106 rfl
    rw [if_neg s12] at hF
    by_cases s14 : x2 = 5
    · rw [if_pos s14] at hF
      refine vv_tableIn (tgt := 107) C 5 s14 dX6_look_11 (by decide +kernel) (by decide +kernel) rfl (by decide) ?_
      refine vv_aload_n C dX6_look_107 0 rfl ?_
      refine vv_get (v := .ref (ad 13)) C (hi_X6_look_X6) 25 (wM_g29 cy ad _) rfl 13 (by decide) (List.mem_of_getElem? (i := 6) rfl) rfl dX6_look_108 ?_
      refine vv_iload_n C dX6_look_111 1 rfl ?_
      refine vv_iald C 9 0 (wM_g13 cy ad _) (tysW_0 cy) hF dX6_look_112 (fun j13 hj13 hF => ?_)
      cases hF
      exact hr _ _ dX6_look_113 rfl
    rw [if_neg s14] at hF
    by_cases s16 : x2 = 6
    · rw [if_pos s16] at hF
      refine vv_tableIn (tgt := 114) C 6 s16 dX6_look_11 (by decide +kernel) (by decide +kernel) rfl (by decide) ?_
      refine vv_aload_n C dX6_look_114 0 rfl ?_
      refine vv_get (v := .ref (ad 14)) C (hi_X6_look_X6) 25 (wM_g29 cy ad _) rfl 14 (by decide) (List.mem_of_getElem? (i := 7) rfl) rfl dX6_look_115 ?_
      refine vv_iload_n C dX6_look_118 1 rfl ?_
      refine vv_iald C 10 0 (wM_g14 cy ad _) (tysW_0 cy) hF dX6_look_119 (fun j15 hj15 hF => ?_)
      cases hF
      exact hr _ _ dX6_look_120 rfl
    rw [if_neg s16] at hF
    by_cases s18 : x2 = 7
    · rw [if_pos s18] at hF
      refine vv_tableIn (tgt := 121) C 7 s18 dX6_look_11 (by decide +kernel) (by decide +kernel) rfl (by decide) ?_
      refine vv_aload_n C dX6_look_121 0 rfl ?_
      refine vv_get (v := .ref (ad 15)) C (hi_X6_look_X6) 25 (wM_g29 cy ad _) rfl 15 (by decide) (List.mem_of_getElem? (i := 8) rfl) rfl dX6_look_122 ?_
      refine vv_iload_n C dX6_look_125 1 rfl ?_
      refine vv_iald C 11 0 (wM_g15 cy ad _) (tysW_0 cy) hF dX6_look_126 (fun j17 hj17 hF => ?_)
      cases hF
      exact hr _ _ dX6_look_127 rfl
    rw [if_neg s18] at hF
    by_cases s20 : x2 = 8
    · rw [if_pos s20] at hF
      refine vv_tableIn (tgt := 128) C 8 s20 dX6_look_11 (by decide +kernel) (by decide +kernel) rfl (by decide) ?_
      refine vv_aload_n C dX6_look_128 0 rfl ?_
      refine vv_iload_n C dX6_look_129 1 rfl ?_
      refine vv_callVi (fun r19 => r19) (fun r19 => (wM cy ad σ)) C en_ok h0 [.int x1] [] 1 hF (fun r19 hr19 => kX6_visitorsOf l D cy ad x1 σ r19  hr19) gX6_look_X6_visitorsOf rfl rfl rfl (by decide +kernel) ⟨by decide, by decide⟩ 25 (wM_g29 cy ad _) rfl rfl rfl (Nat.le_of_ble_eq_true rfl) dX6_look_130 ⟨by decide, by decide⟩ (fun r19 hqr19 hF => ?_)
      cases hF
      exact hr _ _ dX6_look_133 rfl
    rw [if_neg s20] at hF
    by_cases s21 : x2 = 9
    · rw [if_pos s21] at hF
      refine vv_tableIn (tgt := 134) C 9 s21 dX6_look_11 (by decide +kernel) (by decide +kernel) rfl (by decide) ?_
      refine vv_iconst (v := 0) C dX6_look_134 (by decide) ?_
      refine vv_istore_n (lv' := [(3, .int 0), (0, .ref (ad 29)), (1, .int x1), (2, .int x2)]) C dX6_look_135 (by decide) rfl ?_
      refine vv_iconst (v := 0) C dX6_look_136 (by decide) ?_
      refine vv_istore (lv' := [(4, .int 0), (3, .int 0), (0, .ref (ad 29)), (1, .int x1), (2, .int x2)]) C dX6_look_137 (by decide) rfl ?_
      refine vv_lv [2, 3, 1, 0] rfl ?_
      exact vX6_look_139 C h0 hr  FU_ x1 0 0  hF
    rw [if_neg s21] at hF
    have ts3 := lv_neT s3 (a := 0) (by decide +kernel)
    have ts5 := lv_neT s5 (a := 1) (by decide +kernel)
    have ts8 := lv_neT s8 (a := 2) (by decide +kernel)
    have ts10 := lv_neT s10 (a := 3) (by decide +kernel)
    have ts12 := lv_neT s12 (a := 4) (by decide +kernel)
    have ts14 := lv_neT s14 (a := 5) (by decide +kernel)
    have ts16 := lv_neT s16 (a := 6) (by decide +kernel)
    have ts18 := lv_neT s18 (a := 7) (by decide +kernel)
    have ts20 := lv_neT s20 (a := 8) (by decide +kernel)
    have ts21 := lv_neT s21 (a := 9) (by decide +kernel)
    refine vv_tableOut (tgt := 174) C dX6_look_11 (by omega) (by decide) ?_
    refine vv_iconst (v := (-1)) C dX6_look_174 (by decide) ?_
    cases hF
    exact hr _ _ dX6_look_175 rfl
  · refine vv_iconst (v := (-1)) C dX6_look_8 (by decide) ?_
    cases hF
    exact hr _ _ dX6_look_9 rfl
/-! X6_count -/
abbrev rmX6_count : Room := { frames := 2, cells := 0, slots := 0, locals := 45 }
theorem hi_X6_count_X6 : ∀ w ∈ wsX60, w ∈ wsX6_count := fun w h => List.mem_cons_of_mem _ (List.mem_append_right _ h)
def fX6_count_113 (σ : St_) : Nat → Int32 → Int32 → Option Int32
  | 0, _, _ => none
  | n + 1, x2, x3 => (if (sS σ 2) ≤ x3 then some x2 else (bn_ (fX6_visitorsOf x3 σ) fun r15 => fX6_count_113 σ  n (x2 + r15) (x3 + 1)))
def fX6_count_162 (σ : St_) (k139 : Int32 → Int32 → Option Int32) (x3 : Int32) (t0 : Int32) (t1 : Int32) : Option Int32 := k139 (t1 + t0) (x3 + 1)
def fX6_count_139 (σ : St_) : Nat → Int32 → Int32 → Option Int32
  | 0, _, _ => none
  | n + 1, x2, x3 => (if (sS σ 2) ≤ x3 then some x2 else (gd_ x3 10 fun j17 => (if (sM σ 10 j17) = 0 then fX6_count_162 σ (fX6_count_139 σ  n) x3 0 x2 else fX6_count_162 σ (fX6_count_139 σ  n) x3 1 x2)))
def fX6_count_197 (σ : St_) (k174 : Int32 → Int32 → Option Int32) (x3 : Int32) (t0 : Int32) (t1 : Int32) : Option Int32 := k174 (t1 + t0) (x3 + 1)
def fX6_count_174 (σ : St_) : Nat → Int32 → Int32 → Option Int32
  | 0, _, _ => none
  | n + 1, x2, x3 => (if (sS σ 2) ≤ x3 then some x2 else (gd_ x3 10 fun j20 => (if (sM σ 12 j20) ≤ 0 then fX6_count_197 σ (fX6_count_174 σ  n) x3 0 x2 else fX6_count_197 σ (fX6_count_174 σ  n) x3 1 x2)))
def fX6_count (x1 : Int32) (σ : St_) : Option Int32 := (bn_ (fX6_lies x1 10 15) fun r1 => (if r1 = 0 then (bn_ (fX6_lies x1 20 27) fun r2 => (if r2 = 0 then (if x1 = 0 then some (sS σ 2) else if x1 = 1 then some (sS σ 3) else if x1 = 2 then (if (sS σ 4) = 0 then some 0 else some 1) else if x1 = 3 then fX6_count_113 σ  FU_ 0 0 else if x1 = 4 then fX6_count_139 σ  FU_ 0 0 else if x1 = 5 then fX6_count_174 σ  FU_ 0 0 else if x1 = 6 then some (sS σ 1) else some (-1)) else (gd_ (x1 - 20) 8 fun j11 => some (sM σ 9 j11)))) else (gd_ (x1 - 10) 6 fun j13 => some (sM σ 5 j13))))
set_option maxHeartbeats 4000000 in
set_option maxRecDepth 20000 in
theorem vX6_count_113 {p : Program} {l : Launch} {e : Env} {s : State} {m : MethodId} {args : Array Value} {below : List Frame} {meth : Method} {c : Code} {D : va_G} {A : Nat → Prop} {Q : State → Prop} {cy : Nat → ClassId} {ad : Nat → Nat} {σ : St_} {res : Int32} (C : vv_X p s m args meth c D (tysW cy) A 4 cX6_count RX6 wsX6_count) (h0 : en_T A s) (hr : rt_I p l e rmX6_count s m args below meth c D A 4 Q cX6_count .int (wM cy ad σ) res) : ∀ (n : Nat) (x2 : Int32) (x3 : Int32), fX6_count_113 σ  n x2 x3 = some res → vv_ p l e rmX6_count s m args below meth c D A 4 Q 0 0 (wM cy ad σ) [(0, .ref (ad 29)), (2, .int x2), (3, .int x3)] 113 [] := by
  intro n
  induction n with
  | zero =>
    intro x2 x3 hF
    cases (show none = some res from hF)
  | succ n ih =>
    intro x2 x3 hF
    replace hF : ((if (sS σ 2) ≤ x3 then some x2 else (bn_ (fX6_visitorsOf x3 σ) fun r15 => fX6_count_113 σ  n (x2 + r15) (x3 + 1))) : Option Int32) = some res := hF
    refine vv_iload_n C dX6_count_113 2 rfl ?_
    refine vv_aload_n C dX6_count_114 0 rfl ?_
    refine vv_get (v := .int (sS σ 2)) C (hi_X6_count_X6) 25 (wM_g29 cy ad _) rfl 2 (by decide) (List.mem_of_getElem? (i := 3) rfl) rfl dX6_count_115 ?_
    refine vv_icmp_ge (tgt := 135) C dX6_count_118 (by decide) hF (fun c16 hF => ?_) (fun c16 hF => ?_)
    · refine vv_iload_n C dX6_count_135 1 rfl ?_
      cases hF
      exact hr _ _ dX6_count_136 rfl
    · refine vv_iload_n C dX6_count_121 1 rfl ?_
      refine vv_aload_n C dX6_count_122 0 rfl ?_
      refine vv_iload_n C dX6_count_123 2 rfl ?_
      refine vv_callVi (fun r15 => r15) (fun r15 => (wM cy ad σ)) C en_ok h0 [.int x3] [.int x2] 1 hF (fun r15 hr15 => kX6_visitorsOf l D cy ad x3 σ r15  hr15) gX6_count_X6_visitorsOf rfl rfl rfl (by decide +kernel) ⟨by decide, by decide⟩ 25 (wM_g29 cy ad _) rfl rfl rfl (Nat.le_of_ble_eq_true rfl) dX6_count_124 ⟨by decide, by decide⟩ (fun r15 hqr15 hF => ?_)
      refine vv_iadd C dX6_count_127 ?_
      refine vv_istore_n (lv' := [(2, .int (x2 + r15)), (0, .ref (ad 29)), (3, .int x3)]) C dX6_count_128 (by decide) rfl ?_
      refine vv_iinc (q := 2) (v := x3 + 1) (lv' := [(3, .int (x3 + 1)), (2, .int (x2 + r15)), (0, .ref (ad 29))]) C dX6_count_129 rfl rfl (by decide) rfl ?_
      refine vv_goto (tgt := 113) C dX6_count_132 (by decide) ?_
      refine vv_lv [2, 1, 0] rfl ?_
      exact ih (x2 + r15) (x3 + 1)  hF
set_option maxHeartbeats 4000000 in
set_option maxRecDepth 20000 in
theorem vX6_count_162 {p : Program} {l : Launch} {e : Env} {s : State} {m : MethodId} {args : Array Value} {below : List Frame} {meth : Method} {c : Code} {D : va_G} {A : Nat → Prop} {Q : State → Prop} {cy : Nat → ClassId} {ad : Nat → Nat} {k139 : Int32 → Int32 → Option Int32} {σ : St_} {res : Int32} (C : vv_X p s m args meth c D (tysW cy) A 4 cX6_count RX6 wsX6_count) (h0 : en_T A s) (hr : rt_I p l e rmX6_count s m args below meth c D A 4 Q cX6_count .int (wM cy ad σ) res) (hk139 : ∀ (x2 : Int32) (x3 : Int32), k139 x2 x3 = some res → vv_ p l e rmX6_count s m args below meth c D A 4 Q 0 0 (wM cy ad σ) [(0, .ref (ad 29)), (2, .int x2), (3, .int x3)] 139 []) : ∀ (x3 : Int32) (t0 : Int32) (t1 : Int32), fX6_count_162 σ k139 x3 t0 t1 = some res → vv_ p l e rmX6_count s m args below meth c D A 4 Q 0 0 (wM cy ad σ) [(0, .ref (ad 29)), (3, .int x3)] 162 [.int t0, .int t1] := by
  intro x3 t0 t1 hF
  replace hF : (k139 (t1 + t0) (x3 + 1) : Option Int32) = some res := hF
  refine vv_iadd C dX6_count_162 ?_
  refine vv_istore_n (lv' := [(2, .int (t1 + t0)), (0, .ref (ad 29)), (3, .int x3)]) C dX6_count_163 (by decide) rfl ?_
  refine vv_iinc (q := 2) (v := x3 + 1) (lv' := [(3, .int (x3 + 1)), (2, .int (t1 + t0)), (0, .ref (ad 29))]) C dX6_count_164 rfl rfl (by decide) rfl ?_
  refine vv_goto (tgt := 139) C dX6_count_167 (by decide) ?_
  refine vv_lv [2, 1, 0] rfl ?_
  exact hk139 (t1 + t0) (x3 + 1)  hF
set_option maxHeartbeats 4000000 in
set_option maxRecDepth 20000 in
theorem vX6_count_139 {p : Program} {l : Launch} {e : Env} {s : State} {m : MethodId} {args : Array Value} {below : List Frame} {meth : Method} {c : Code} {D : va_G} {A : Nat → Prop} {Q : State → Prop} {cy : Nat → ClassId} {ad : Nat → Nat} {σ : St_} {res : Int32} (C : vv_X p s m args meth c D (tysW cy) A 4 cX6_count RX6 wsX6_count) (h0 : en_T A s) (hr : rt_I p l e rmX6_count s m args below meth c D A 4 Q cX6_count .int (wM cy ad σ) res) : ∀ (n : Nat) (x2 : Int32) (x3 : Int32), fX6_count_139 σ  n x2 x3 = some res → vv_ p l e rmX6_count s m args below meth c D A 4 Q 0 0 (wM cy ad σ) [(0, .ref (ad 29)), (2, .int x2), (3, .int x3)] 139 [] := by
  intro n
  induction n with
  | zero =>
    intro x2 x3 hF
    cases (show none = some res from hF)
  | succ n ih =>
    intro x2 x3 hF
    replace hF : ((if (sS σ 2) ≤ x3 then some x2 else (gd_ x3 10 fun j17 => (if (sM σ 10 j17) = 0 then fX6_count_162 σ (fX6_count_139 σ  n) x3 0 x2 else fX6_count_162 σ (fX6_count_139 σ  n) x3 1 x2))) : Option Int32) = some res := hF
    refine vv_iload_n C dX6_count_139 2 rfl ?_
    refine vv_aload_n C dX6_count_140 0 rfl ?_
    refine vv_get (v := .int (sS σ 2)) C (hi_X6_count_X6) 25 (wM_g29 cy ad _) rfl 2 (by decide) (List.mem_of_getElem? (i := 3) rfl) rfl dX6_count_141 ?_
    refine vv_icmp_ge (tgt := 170) C dX6_count_144 (by decide) hF (fun c19 hF => ?_) (fun c19 hF => ?_)
    · refine vv_iload_n C dX6_count_170 1 rfl ?_
      cases hF
      exact hr _ _ dX6_count_171 rfl
    · refine vv_iload_n C dX6_count_147 1 rfl ?_
      refine vv_aload_n C dX6_count_148 0 rfl ?_
      refine vv_get (v := .ref (ad 10)) C (hi_X6_count_X6) 25 (wM_g29 cy ad _) rfl 10 (by decide) (List.mem_of_getElem? (i := 6) rfl) rfl dX6_count_149 ?_
      refine vv_iload_n C dX6_count_152 2 rfl ?_
      refine vv_zald C 6 1 (wM_g10 cy ad _) (tysW_1 cy) hF dX6_count_153 (fun j17 hj17 hF => ?_)
      refine vv_if_eq (tgt := 161) C dX6_count_154 (by decide) hF (fun c18 hF => ?_) (fun c18 hF => ?_)
      · refine vv_iconst (v := 0) C dX6_count_161 (by decide) ?_
        refine vv_lv [0, 2] rfl ?_
        exact vX6_count_162 C h0 hr (ih) x3 0 x2  hF
      · refine vv_iconst (v := 1) C dX6_count_157 (by decide) ?_
        refine vv_goto (tgt := 162) C dX6_count_158 (by decide) ?_
        refine vv_lv [0, 2] rfl ?_
        exact vX6_count_162 C h0 hr (ih) x3 1 x2  hF
set_option maxHeartbeats 4000000 in
set_option maxRecDepth 20000 in
theorem vX6_count_197 {p : Program} {l : Launch} {e : Env} {s : State} {m : MethodId} {args : Array Value} {below : List Frame} {meth : Method} {c : Code} {D : va_G} {A : Nat → Prop} {Q : State → Prop} {cy : Nat → ClassId} {ad : Nat → Nat} {k174 : Int32 → Int32 → Option Int32} {σ : St_} {res : Int32} (C : vv_X p s m args meth c D (tysW cy) A 4 cX6_count RX6 wsX6_count) (h0 : en_T A s) (hr : rt_I p l e rmX6_count s m args below meth c D A 4 Q cX6_count .int (wM cy ad σ) res) (hk174 : ∀ (x2 : Int32) (x3 : Int32), k174 x2 x3 = some res → vv_ p l e rmX6_count s m args below meth c D A 4 Q 0 0 (wM cy ad σ) [(0, .ref (ad 29)), (2, .int x2), (3, .int x3)] 174 []) : ∀ (x3 : Int32) (t0 : Int32) (t1 : Int32), fX6_count_197 σ k174 x3 t0 t1 = some res → vv_ p l e rmX6_count s m args below meth c D A 4 Q 0 0 (wM cy ad σ) [(0, .ref (ad 29)), (3, .int x3)] 197 [.int t0, .int t1] := by
  intro x3 t0 t1 hF
  replace hF : (k174 (t1 + t0) (x3 + 1) : Option Int32) = some res := hF
  refine vv_iadd C dX6_count_197 ?_
  refine vv_istore_n (lv' := [(2, .int (t1 + t0)), (0, .ref (ad 29)), (3, .int x3)]) C dX6_count_198 (by decide) rfl ?_
  refine vv_iinc (q := 2) (v := x3 + 1) (lv' := [(3, .int (x3 + 1)), (2, .int (t1 + t0)), (0, .ref (ad 29))]) C dX6_count_199 rfl rfl (by decide) rfl ?_
  refine vv_goto (tgt := 174) C dX6_count_202 (by decide) ?_
  refine vv_lv [2, 1, 0] rfl ?_
  exact hk174 (t1 + t0) (x3 + 1)  hF
set_option maxHeartbeats 4000000 in
set_option maxRecDepth 20000 in
theorem vX6_count_174 {p : Program} {l : Launch} {e : Env} {s : State} {m : MethodId} {args : Array Value} {below : List Frame} {meth : Method} {c : Code} {D : va_G} {A : Nat → Prop} {Q : State → Prop} {cy : Nat → ClassId} {ad : Nat → Nat} {σ : St_} {res : Int32} (C : vv_X p s m args meth c D (tysW cy) A 4 cX6_count RX6 wsX6_count) (h0 : en_T A s) (hr : rt_I p l e rmX6_count s m args below meth c D A 4 Q cX6_count .int (wM cy ad σ) res) : ∀ (n : Nat) (x2 : Int32) (x3 : Int32), fX6_count_174 σ  n x2 x3 = some res → vv_ p l e rmX6_count s m args below meth c D A 4 Q 0 0 (wM cy ad σ) [(0, .ref (ad 29)), (2, .int x2), (3, .int x3)] 174 [] := by
  intro n
  induction n with
  | zero =>
    intro x2 x3 hF
    cases (show none = some res from hF)
  | succ n ih =>
    intro x2 x3 hF
    replace hF : ((if (sS σ 2) ≤ x3 then some x2 else (gd_ x3 10 fun j20 => (if (sM σ 12 j20) ≤ 0 then fX6_count_197 σ (fX6_count_174 σ  n) x3 0 x2 else fX6_count_197 σ (fX6_count_174 σ  n) x3 1 x2))) : Option Int32) = some res := hF
    refine vv_iload_n C dX6_count_174 2 rfl ?_
    refine vv_aload_n C dX6_count_175 0 rfl ?_
    refine vv_get (v := .int (sS σ 2)) C (hi_X6_count_X6) 25 (wM_g29 cy ad _) rfl 2 (by decide) (List.mem_of_getElem? (i := 3) rfl) rfl dX6_count_176 ?_
    refine vv_icmp_ge (tgt := 205) C dX6_count_179 (by decide) hF (fun c22 hF => ?_) (fun c22 hF => ?_)
    · refine vv_iload_n C dX6_count_205 1 rfl ?_
      cases hF
      exact hr _ _ dX6_count_206 rfl
    · refine vv_iload_n C dX6_count_182 1 rfl ?_
      refine vv_aload_n C dX6_count_183 0 rfl ?_
      refine vv_get (v := .ref (ad 12)) C (hi_X6_count_X6) 25 (wM_g29 cy ad _) rfl 12 (by decide) (List.mem_of_getElem? (i := 7) rfl) rfl dX6_count_184 ?_
      refine vv_iload_n C dX6_count_187 2 rfl ?_
      refine vv_iald C 8 0 (wM_g12 cy ad _) (tysW_0 cy) hF dX6_count_188 (fun j20 hj20 hF => ?_)
      refine vv_if_le (tgt := 196) C dX6_count_189 (by decide) hF (fun c21 hF => ?_) (fun c21 hF => ?_)
      · refine vv_iconst (v := 0) C dX6_count_196 (by decide) ?_
        refine vv_lv [0, 2] rfl ?_
        exact vX6_count_197 C h0 hr (ih) x3 0 x2  hF
      · refine vv_iconst (v := 1) C dX6_count_192 (by decide) ?_
        refine vv_goto (tgt := 197) C dX6_count_193 (by decide) ?_
        refine vv_lv [0, 2] rfl ?_
        exact vX6_count_197 C h0 hr (ih) x3 1 x2  hF
set_option maxHeartbeats 4000000 in
set_option maxRecDepth 20000 in
theorem kX6_count (l : Launch) (D : va_G) (cy : Nat → ClassId) (ad : Nat → Nat) (x1 : Int32) (σ : St_) (res : Int32)  (hF : fX6_count x1 σ = some res) : ct_I l D (tysW cy) en_T yX6_count wsX6_count rmX6_count [.ref (ad 29), .int x1] (wM cy ad σ) res (wM cy ad σ) := by
  refine mt_I (by decide) rfl (Nat.le_of_ble_eq_true rfl) ?_
  intro p e s m args below meth c A Q C h0 hr
  replace C : vv_X p s m args meth c D (tysW cy) A 4 cX6_count RX6 wsX6_count := C
  replace hF : ((bn_ (fX6_lies x1 10 15) fun r1 => (if r1 = 0 then (bn_ (fX6_lies x1 20 27) fun r2 => (if r2 = 0 then (if x1 = 0 then some (sS σ 2) else if x1 = 1 then some (sS σ 3) else if x1 = 2 then (if (sS σ 4) = 0 then some 0 else some 1) else if x1 = 3 then fX6_count_113 σ  FU_ 0 0 else if x1 = 4 then fX6_count_139 σ  FU_ 0 0 else if x1 = 5 then fX6_count_174 σ  FU_ 0 0 else if x1 = 6 then some (sS σ 1) else some (-1)) else (gd_ (x1 - 20) 8 fun j11 => some (sM σ 9 j11)))) else (gd_ (x1 - 10) 6 fun j13 => some (sM σ 5 j13)))) : Option Int32) = some res := hF
  refine vv_lv [0, 1] (lv' := [(0, .ref (ad 29)), (1, .int x1)]) rfl ?_
  refine vv_iload_n C dX6_count_0 1 rfl ?_
  refine vv_bipush (v := 10) C dX6_count_1 (by decide) ?_
  refine vv_bipush (v := 15) C dX6_count_3 (by decide) ?_
  refine vv_callSi (fun r1 => r1) (fun r1 => (wM cy ad σ)) C en_ok h0 [.int x1, .int 10, .int 15] [] 3 hF (fun r1 hr1 => kX6_lies l D (tysW cy) en_ok (wM cy ad σ) x1 10 15 r1  hr1) gX6_count_X6_lies rfl rfl rfl (by decide +kernel) ⟨by decide, by decide⟩ rfl rfl (Nat.le_of_ble_eq_true rfl) dX6_count_5 ⟨by decide, by decide⟩ (fun r1 hqr1 hF => ?_)
  refine vv_if_eq (tgt := 21) C dX6_count_8 (by decide) hF (fun c14 hF => ?_) (fun c14 hF => ?_)
  · refine vv_iload_n C dX6_count_21 1 rfl ?_
    refine vv_bipush (v := 20) C dX6_count_22 (by decide) ?_
    refine vv_bipush (v := 27) C dX6_count_24 (by decide) ?_
    refine vv_callSi (fun r2 => r2) (fun r2 => (wM cy ad σ)) C en_ok h0 [.int x1, .int 20, .int 27] [] 3 hF (fun r2 hr2 => kX6_lies l D (tysW cy) en_ok (wM cy ad σ) x1 20 27 r2  hr2) gX6_count_X6_lies rfl rfl rfl (by decide +kernel) ⟨by decide, by decide⟩ rfl rfl (Nat.le_of_ble_eq_true rfl) dX6_count_26 ⟨by decide, by decide⟩ (fun r2 hqr2 hF => ?_)
    refine vv_if_eq (tgt := 42) C dX6_count_29 (by decide) hF (fun c12 hF => ?_) (fun c12 hF => ?_)
    · refine vv_iconst (v := 0) C dX6_count_42 (by decide) ?_
      refine vv_istore_n (lv' := [(2, .int 0), (0, .ref (ad 29)), (1, .int x1)]) C dX6_count_43 (by decide) rfl ?_
      refine vv_iload_n C dX6_count_44 2 rfl ?_
      by_cases s3 : x1 = 0
      · rw [if_pos s3] at hF
        refine vv_tableIn (tgt := 88) C 0 s3 dX6_count_45 (by decide +kernel) (by decide +kernel) rfl (by decide) ?_
        refine vv_aload_n C dX6_count_88 1 rfl ?_
        refine vv_get (v := .int (sS σ 2)) C (hi_X6_count_X6) 25 (wM_g29 cy ad _) rfl 2 (by decide) (List.mem_of_getElem? (i := 3) rfl) rfl dX6_count_89 ?_
        cases hF
        exact hr _ _ dX6_count_92 rfl
      rw [if_neg s3] at hF
      by_cases s4 : x1 = 1
      · rw [if_pos s4] at hF
        refine vv_tableIn (tgt := 93) C 1 s4 dX6_count_45 (by decide +kernel) (by decide +kernel) rfl (by decide) ?_
        refine vv_aload_n C dX6_count_93 1 rfl ?_
        refine vv_get (v := .int (sS σ 3)) C (hi_X6_count_X6) 25 (wM_g29 cy ad _) rfl 3 (by decide) (List.mem_of_getElem? (i := 4) rfl) rfl dX6_count_94 ?_
        cases hF
        exact hr _ _ dX6_count_97 rfl
      rw [if_neg s4] at hF
      by_cases s6 : x1 = 2
      · rw [if_pos s6] at hF
        refine vv_tableIn (tgt := 98) C 2 s6 dX6_count_45 (by decide +kernel) (by decide +kernel) rfl (by decide) ?_
        refine vv_aload_n C dX6_count_98 1 rfl ?_
        refine vv_get (v := .int (sS σ 4)) C (hi_X6_count_X6) 25 (wM_g29 cy ad _) rfl 4 (by decide) (List.mem_of_getElem? (i := 5) rfl) rfl dX6_count_99 ?_
        refine vv_if_eq (tgt := 109) C dX6_count_102 (by decide) hF (fun c5 hF => ?_) (fun c5 hF => ?_)
        · refine vv_iconst (v := 0) C dX6_count_109 (by decide) ?_
          cases hF
          exact hr _ _ dX6_count_110 rfl
        · refine vv_iconst (v := 1) C dX6_count_105 (by decide) ?_
          refine vv_goto (tgt := 110) C dX6_count_106 (by decide) ?_
          cases hF
          exact hr _ _ dX6_count_110 rfl
      rw [if_neg s6] at hF
      by_cases s7 : x1 = 3
      · rw [if_pos s7] at hF
        refine vv_tableIn (tgt := 111) C 3 s7 dX6_count_45 (by decide +kernel) (by decide +kernel) rfl (by decide) ?_
        refine vv_iconst (v := 0) C dX6_count_111 (by decide) ?_
        refine vv_istore_n (lv' := [(3, .int 0), (2, .int 0), (0, .ref (ad 29)), (1, .int x1)]) C dX6_count_112 (by decide) rfl ?_
        refine vv_lv [2, 1, 0] rfl ?_
        exact vX6_count_113 C h0 hr  FU_ 0 0  hF
      rw [if_neg s7] at hF
      by_cases s8 : x1 = 4
      · rw [if_pos s8] at hF
        refine vv_tableIn (tgt := 137) C 4 s8 dX6_count_45 (by decide +kernel) (by decide +kernel) rfl (by decide) ?_
        refine vv_iconst (v := 0) C dX6_count_137 (by decide) ?_
        refine vv_istore_n (lv' := [(3, .int 0), (2, .int 0), (0, .ref (ad 29)), (1, .int x1)]) C dX6_count_138 (by decide) rfl ?_
        refine vv_lv [2, 1, 0] rfl ?_
        exact vX6_count_139 C h0 hr  FU_ 0 0  hF
      rw [if_neg s8] at hF
      by_cases s9 : x1 = 5
      · rw [if_pos s9] at hF
        refine vv_tableIn (tgt := 172) C 5 s9 dX6_count_45 (by decide +kernel) (by decide +kernel) rfl (by decide) ?_
        refine vv_iconst (v := 0) C dX6_count_172 (by decide) ?_
        refine vv_istore_n (lv' := [(3, .int 0), (2, .int 0), (0, .ref (ad 29)), (1, .int x1)]) C dX6_count_173 (by decide) rfl ?_
        refine vv_lv [2, 1, 0] rfl ?_
        exact vX6_count_174 C h0 hr  FU_ 0 0  hF
      rw [if_neg s9] at hF
      by_cases s10 : x1 = 6
      · rw [if_pos s10] at hF
        refine vv_tableIn (tgt := 207) C 6 s10 dX6_count_45 (by decide +kernel) (by decide +kernel) rfl (by decide) ?_
        refine vv_aload_n C dX6_count_207 1 rfl ?_
        refine vv_get (v := .int (sS σ 1)) C (hi_X6_count_X6) 25 (wM_g29 cy ad _) rfl 1 (by decide) (List.mem_of_getElem? (i := 8) rfl) rfl dX6_count_208 ?_
        cases hF
        exact hr _ _ dX6_count_211 rfl
      rw [if_neg s10] at hF
      have ts3 := lv_neT s3 (a := 0) (by decide +kernel)
      have ts4 := lv_neT s4 (a := 1) (by decide +kernel)
      have ts6 := lv_neT s6 (a := 2) (by decide +kernel)
      have ts7 := lv_neT s7 (a := 3) (by decide +kernel)
      have ts8 := lv_neT s8 (a := 4) (by decide +kernel)
      have ts9 := lv_neT s9 (a := 5) (by decide +kernel)
      have ts10 := lv_neT s10 (a := 6) (by decide +kernel)
      refine vv_tableOut (tgt := 212) C dX6_count_45 (by omega) (by decide) ?_
      refine vv_iconst (v := (-1)) C dX6_count_212 (by decide) ?_
      cases hF
      exact hr _ _ dX6_count_213 rfl
    · refine vv_aload_n C dX6_count_32 0 rfl ?_
      refine vv_get (v := .ref (ad 9)) C (hi_X6_count_X6) 25 (wM_g29 cy ad _) rfl 9 (by decide) (List.mem_of_getElem? (i := 2) rfl) rfl dX6_count_33 ?_
      refine vv_iload_n C dX6_count_36 1 rfl ?_
      refine vv_bipush (v := 20) C dX6_count_37 (by decide) ?_
      refine vv_isub C dX6_count_39 ?_
      refine vv_iald C 5 0 (wM_g9 cy ad _) (tysW_0 cy) hF dX6_count_40 (fun j11 hj11 hF => ?_)
      cases hF
      exact hr _ _ dX6_count_41 rfl
  · refine vv_aload_n C dX6_count_11 0 rfl ?_
    refine vv_get (v := .ref (ad 5)) C (hi_X6_count_X6) 25 (wM_g29 cy ad _) rfl 5 (by decide) (List.mem_of_getElem? (i := 1) rfl) rfl dX6_count_12 ?_
    refine vv_iload_n C dX6_count_15 1 rfl ?_
    refine vv_bipush (v := 10) C dX6_count_16 (by decide) ?_
    refine vv_isub C dX6_count_18 ?_
    refine vv_iald C 1 0 (wM_g5 cy ad _) (tysW_0 cy) hF dX6_count_19 (fun j13 hj13 hF => ?_)
    cases hF
    exact hr _ _ dX6_count_20 rfl
