/-! X6_push -/
abbrev rmX6_push : Room := { frames := 0, cells := 0, slots := 0, locals := 0 }
theorem hi_X6_push_X6 : ∀ w ∈ wsX60, w ∈ wsX6_push := fun w h => List.mem_cons_of_mem _ (List.mem_append_right _ h)
def fX6_push_3 : Nat → Int32 → Int32 → St_ → Option St_
  | 0, _, _, _ => none
  | n + 1, x1, x2, σ => (if x2 < 0 then some σ else (gd_ (sS σ 1) 60 fun j1 => fX6_push_3  n x1 (x2 + (-8)) (uS (uM σ 0 j1 (vp_nar .byte (i2b_ (x1 >>> (x2 &&& 31))))) 1 ((sS (uM σ 0 j1 (vp_nar .byte (i2b_ (x1 >>> (x2 &&& 31))))) 1) + 1))))
def fX6_push (x1 : Int32) (σ : St_) : Option St_ := fX6_push_3  FU_ x1 24 σ
set_option maxHeartbeats 4000000 in
set_option maxRecDepth 20000 in
theorem vX6_push_3 {p : Program} {l : Launch} {e : Env} {s : State} {m : MethodId} {args : Array Value} {below : List Frame} {meth : Method} {c : Code} {D : va_G} {A : Nat → Prop} {Q : State → Prop} {cy : Nat → ClassId} {ad : Nat → Nat} {res : St_} (C : vv_X p s m args meth c D (tysW cy) A 3 cX6_push RX6 wsX6_push) (h0 : en_T A s) (hr : rt_V p l e rmX6_push s m args below meth c D A 3 Q cX6_push (wM cy ad res)) : ∀ (n : Nat) (x1 : Int32) (x2 : Int32) (σ : St_), fX6_push_3  n x1 x2 σ = some res → vv_ p l e rmX6_push s m args below meth c D A 3 Q 0 0 (wM cy ad σ) [(0, .ref (ad 29)), (1, .int x1), (2, .int x2)] 3 [] := by
  intro n
  induction n with
  | zero =>
    intro x1 x2 σ hF
    cases (show none = some res from hF)
  | succ n ih =>
    intro x1 x2 σ hF
    replace hF : ((if x2 < 0 then some σ else (gd_ (sS σ 1) 60 fun j1 => fX6_push_3  n x1 (x2 + (-8)) (uS (uM σ 0 j1 (vp_nar .byte (i2b_ (x1 >>> (x2 &&& 31))))) 1 ((sS (uM σ 0 j1 (vp_nar .byte (i2b_ (x1 >>> (x2 &&& 31))))) 1) + 1)))) : Option St_) = some res := hF
    refine vv_iload_n C dX6_push_3 2 rfl ?_
    refine vv_if_lt (tgt := 36) C dX6_push_4 (by decide) hF (fun c2 hF => ?_) (fun c2 hF => ?_)
    · cases hF
      exact hr _ _ dX6_push_36
    · refine vv_aload_n C dX6_push_7 0 rfl ?_
      refine vv_get (v := .ref (ad 0)) C (hi_X6_push_X6) 25 (wM_g29 cy ad _) rfl 0 (by decide) (List.mem_of_getElem? (i := 1) rfl) rfl dX6_push_8 ?_
      refine vv_aload_n C dX6_push_11 0 rfl ?_
      refine vv_get (v := .int (sS σ 1)) C (hi_X6_push_X6) 25 (wM_g29 cy ad _) rfl 1 (by decide) (List.mem_of_getElem? (i := 2) rfl) rfl dX6_push_12 ?_
      refine vv_iload_n C dX6_push_15 1 rfl ?_
      refine vv_iload_n C dX6_push_16 2 rfl ?_
      refine vv_ishr C dX6_push_17 ?_
      refine vv_i2b C dX6_push_18 ?_
      refine vv_bast (w' := fun j1 => (wM cy ad (uM σ 0 j1 (vp_nar .byte (i2b_ (x1 >>> (x2 &&& 31))))))) C 0 2 (wM_g0 cy ad _) (tysW_2 cy) hF dX6_push_19 (fun _ => wM_a0 _ _ _ _) (fun j1 hj1 hF => ?_)
      refine vv_aload_n C dX6_push_20 0 rfl ?_
      refine vv_dup C dX6_push_21 rfl ?_
      refine vv_get (v := .int (sS (uM σ 0 j1 (vp_nar .byte (i2b_ (x1 >>> (x2 &&& 31))))) 1)) C (hi_X6_push_X6) 25 (wM_g29 cy ad _) rfl 1 (by decide) (List.mem_of_getElem? (i := 2) rfl) rfl dX6_push_22 ?_
      refine vv_iconst (v := 1) C dX6_push_25 (by decide) ?_
      refine vv_iadd C dX6_push_26 ?_
      refine vv_put (w' := (wM cy ad (uS (uM σ 0 j1 (vp_nar .byte (i2b_ (x1 >>> (x2 &&& 31))))) 1 ((sS (uM σ 0 j1 (vp_nar .byte (i2b_ (x1 >>> (x2 &&& 31))))) 1) + 1)))) C (hi_X6_push_X6) tyX6 tyX6_ok nmX6 25 (wM_g29 cy ad _) rfl 1 (by decide) (List.mem_of_getElem? (i := 2) rfl) rfl rfl rfl (Nat.le_of_ble_eq_true rfl) dX6_push_27 (wM_s1 _ _ _ _) ?_
      refine vv_iinc (q := 2) (v := x2 + (-8)) (lv' := [(2, .int (x2 + (-8))), (0, .ref (ad 29)), (1, .int x1)]) C dX6_push_30 rfl rfl (by decide) rfl ?_
      refine vv_goto (tgt := 3) C dX6_push_33 (by decide) ?_
      refine vv_lv [1, 2, 0] rfl ?_
      exact ih x1 (x2 + (-8)) (uS (uM σ 0 j1 (vp_nar .byte (i2b_ (x1 >>> (x2 &&& 31))))) 1 ((sS (uM σ 0 j1 (vp_nar .byte (i2b_ (x1 >>> (x2 &&& 31))))) 1) + 1))  hF
set_option maxHeartbeats 4000000 in
set_option maxRecDepth 20000 in
theorem kX6_push (l : Launch) (D : va_G) (cy : Nat → ClassId) (ad : Nat → Nat) (x1 : Int32) (σ : St_) (res : St_)  (hF : fX6_push x1 σ = some res) : ct_V l D (tysW cy) en_T yX6_push wsX6_push rmX6_push [.ref (ad 29), .int x1] (wM cy ad σ) (wM cy ad res) := by
  refine mt_V (by decide) rfl (Nat.le_of_ble_eq_true rfl) ?_
  intro p e s m args below meth c A Q C h0 hr
  replace C : vv_X p s m args meth c D (tysW cy) A 3 cX6_push RX6 wsX6_push := C
  replace hF : (fX6_push_3  FU_ x1 24 σ : Option St_) = some res := hF
  refine vv_lv [0, 1] (lv' := [(0, .ref (ad 29)), (1, .int x1)]) rfl ?_
  refine vv_bipush (v := 24) C dX6_push_0 (by decide) ?_
  refine vv_istore_n (lv' := [(2, .int 24), (0, .ref (ad 29)), (1, .int x1)]) C dX6_push_2 (by decide) rfl ?_
  refine vv_lv [1, 2, 0] rfl ?_
  exact vX6_push_3 C h0 hr  FU_ x1 24 σ  hF
/-! X6_feed -/
abbrev rmX6_feed : Room := { frames := 1, cells := 0, slots := 0, locals := 22 }
theorem hi_X6_feed_X6 : ∀ w ∈ wsX60, w ∈ wsX6_feed := fun w h => List.mem_cons_of_mem _ (List.mem_append_right _ h)
def fX6_feed (x1 : Int32) (x2 : Int32) (x3 : Int32) (x4 : Int32) (x5 : Int32) (σ : St_) : Option (Int32 × St_) := (if ((sS σ 1) + 20) ≤ 60 then (bn_ (fX6_push x1 σ) fun r1 => (bn_ (fX6_push x2 r1) fun r2 => (bn_ (fX6_push x3 r2) fun r3 => (bn_ (fX6_push x4 r3) fun r4 => (bn_ (fX6_push x5 r4) fun r5 => some ((sS r5 1), r5)))))) else some ((-1), σ))
set_option maxHeartbeats 4000000 in
set_option maxRecDepth 20000 in
theorem kX6_feed (l : Launch) (D : va_G) (cy : Nat → ClassId) (ad : Nat → Nat) (x1 : Int32) (x2 : Int32) (x3 : Int32) (x4 : Int32) (x5 : Int32) (σ : St_) (res : Int32 × St_)  (hF : fX6_feed x1 x2 x3 x4 x5 σ = some res) : ct_I l D (tysW cy) en_T yX6_feed wsX6_feed rmX6_feed [.ref (ad 29), .int x1, .int x2, .int x3, .int x4, .int x5] (wM cy ad σ) res.1 (wM cy ad res.2) := by
  refine mt_I (by decide) rfl (Nat.le_of_ble_eq_true rfl) ?_
  intro p e s m args below meth c A Q C h0 hr
  replace C : vv_X p s m args meth c D (tysW cy) A 6 cX6_feed RX6 wsX6_feed := C
  replace hF : ((if ((sS σ 1) + 20) ≤ 60 then (bn_ (fX6_push x1 σ) fun r1 => (bn_ (fX6_push x2 r1) fun r2 => (bn_ (fX6_push x3 r2) fun r3 => (bn_ (fX6_push x4 r3) fun r4 => (bn_ (fX6_push x5 r4) fun r5 => some ((sS r5 1), r5)))))) else some ((-1), σ)) : Option (Int32 × St_)) = some res := hF
  refine vv_lv [0, 1, 2, 3, 4, 5] (lv' := [(0, .ref (ad 29)), (1, .int x1), (2, .int x2), (3, .int x3), (4, .int x4), (5, .int x5)]) rfl ?_
  refine vv_aload_n C dX6_feed_0 0 rfl ?_
  refine vv_get (v := .int (sS σ 1)) C (hi_X6_feed_X6) 25 (wM_g29 cy ad _) rfl 1 (by decide) (List.mem_of_getElem? (i := 1) rfl) rfl dX6_feed_1 ?_
  refine vv_bipush (v := 20) C dX6_feed_4 (by decide) ?_
  refine vv_iadd C dX6_feed_6 ?_
  refine vv_bipush (v := 60) C dX6_feed_7 (by decide) ?_
  refine vv_icmp_le (tgt := 14) C dX6_feed_9 (by decide) hF (fun c6 hF => ?_) (fun c6 hF => ?_)
  · refine vv_aload_n C dX6_feed_14 0 rfl ?_
    refine vv_iload_n C dX6_feed_15 1 rfl ?_
    refine vv_callVv  (fun r1 => (wM cy ad r1)) C en_ok h0 [.int x1] [] 1 hF (fun r1 hr1 => kX6_push l D cy ad x1 σ r1  hr1) gX6_feed_X6_push rfl rfl rfl (by decide +kernel) ⟨by decide, by decide⟩ 25 (wM_g29 cy ad _) rfl rfl rfl (Nat.le_of_ble_eq_true rfl) dX6_feed_16 ⟨by decide, by decide⟩ (fun r1 hqr1 hF => ?_)
    refine vv_aload_n C dX6_feed_19 0 rfl ?_
    refine vv_iload_n C dX6_feed_20 2 rfl ?_
    refine vv_callVv  (fun r2 => (wM cy ad r2)) C en_ok h0 [.int x2] [] 1 hF (fun r2 hr2 => kX6_push l D cy ad x2 r1 r2  hr2) gX6_feed_X6_push rfl rfl rfl (by decide +kernel) ⟨by decide, by decide⟩ 25 (wM_g29 cy ad _) rfl rfl rfl (Nat.le_of_ble_eq_true rfl) dX6_feed_21 ⟨by decide, by decide⟩ (fun r2 hqr2 hF => ?_)
    refine vv_aload_n C dX6_feed_24 0 rfl ?_
    refine vv_iload_n C dX6_feed_25 3 rfl ?_
    refine vv_callVv  (fun r3 => (wM cy ad r3)) C en_ok h0 [.int x3] [] 1 hF (fun r3 hr3 => kX6_push l D cy ad x3 r2 r3  hr3) gX6_feed_X6_push rfl rfl rfl (by decide +kernel) ⟨by decide, by decide⟩ 25 (wM_g29 cy ad _) rfl rfl rfl (Nat.le_of_ble_eq_true rfl) dX6_feed_26 ⟨by decide, by decide⟩ (fun r3 hqr3 hF => ?_)
    refine vv_aload_n C dX6_feed_29 0 rfl ?_
    refine vv_iload C dX6_feed_30 4 rfl ?_
    refine vv_callVv  (fun r4 => (wM cy ad r4)) C en_ok h0 [.int x4] [] 1 hF (fun r4 hr4 => kX6_push l D cy ad x4 r3 r4  hr4) gX6_feed_X6_push rfl rfl rfl (by decide +kernel) ⟨by decide, by decide⟩ 25 (wM_g29 cy ad _) rfl rfl rfl (Nat.le_of_ble_eq_true rfl) dX6_feed_32 ⟨by decide, by decide⟩ (fun r4 hqr4 hF => ?_)
    refine vv_aload_n C dX6_feed_35 0 rfl ?_
    refine vv_iload C dX6_feed_36 5 rfl ?_
    refine vv_callVv  (fun r5 => (wM cy ad r5)) C en_ok h0 [.int x5] [] 1 hF (fun r5 hr5 => kX6_push l D cy ad x5 r4 r5  hr5) gX6_feed_X6_push rfl rfl rfl (by decide +kernel) ⟨by decide, by decide⟩ 25 (wM_g29 cy ad _) rfl rfl rfl (Nat.le_of_ble_eq_true rfl) dX6_feed_38 ⟨by decide, by decide⟩ (fun r5 hqr5 hF => ?_)
    refine vv_aload_n C dX6_feed_41 0 rfl ?_
    refine vv_get (v := .int (sS r5 1)) C (hi_X6_feed_X6) 25 (wM_g29 cy ad _) rfl 1 (by decide) (List.mem_of_getElem? (i := 1) rfl) rfl dX6_feed_42 ?_
    cases hF
    exact hr _ _ dX6_feed_45 rfl
  · refine vv_iconst (v := (-1)) C dX6_feed_12 (by decide) ?_
    cases hF
    exact hr _ _ dX6_feed_13 rfl
/-! X6_asAtFirst_q5 -/
abbrev rmX6_asAtFirst_q5 : Room := { frames := 0, cells := 0, slots := 0, locals := 0 }
def fX6_asAtFirst_q5 (σ : St_) : Option St_ := (gd_ 0 6 fun j1 => (gd_ 1 6 fun j2 => (gd_ 2 6 fun j3 => (gd_ 3 6 fun j4 => (gd_ 4 6 fun j5 => (gd_ 5 6 fun j6 => some (uM (uM (uM (uM (uM (uM σ 5 j1 3) 5 j2 3) 5 j3 3) 5 j4 9) 5 j5 2) 5 j6 60)))))))
set_option maxHeartbeats 4000000 in
set_option maxRecDepth 20000 in
theorem kX6_asAtFirst_q5 (l : Launch) (D : va_G) (cy : Nat → ClassId) (ad : Nat → Nat) (σ : St_) (res : St_)  (hF : fX6_asAtFirst_q5 σ = some res) : ct_V l D (tysW cy) en_T yX6_asAtFirst wsX6_asAtFirst rmX6_asAtFirst_q5 [.ref (ad 5)] (wM cy ad σ) (wM cy ad res) := by
  refine mt_V (by decide) rfl (Nat.le_of_ble_eq_true rfl) ?_
  intro p e s m args below meth c A Q C h0 hr
  replace C : vv_X p s m args meth c D (tysW cy) A 1 cX6_asAtFirst RX6 wsX6_asAtFirst := C
  replace hF : ((gd_ 0 6 fun j1 => (gd_ 1 6 fun j2 => (gd_ 2 6 fun j3 => (gd_ 3 6 fun j4 => (gd_ 4 6 fun j5 => (gd_ 5 6 fun j6 => some (uM (uM (uM (uM (uM (uM σ 5 j1 3) 5 j2 3) 5 j3 3) 5 j4 9) 5 j5 2) 5 j6 60))))))) : Option St_) = some res := hF
  refine vv_lv [0] (lv' := [(0, .ref (ad 5))]) rfl ?_
  refine vv_aload_n C dX6_asAtFirst_0 0 rfl ?_
  refine vv_iconst (v := 0) C dX6_asAtFirst_1 (by decide) ?_
  refine vv_iconst (v := 3) C dX6_asAtFirst_2 (by decide) ?_
  refine vv_iast (w' := fun j1 => (wM cy ad (uM σ 5 j1 3))) C 1 0 (wM_g5 cy ad _) (tysW_0 cy) hF dX6_asAtFirst_3 (fun _ => wM_a5 _ _ _ _) (fun j1 hj1 hF => ?_)
  refine vv_aload_n C dX6_asAtFirst_4 0 rfl ?_
  refine vv_iconst (v := 1) C dX6_asAtFirst_5 (by decide) ?_
  refine vv_iconst (v := 3) C dX6_asAtFirst_6 (by decide) ?_
  refine vv_iast (w' := fun j2 => (wM cy ad (uM (uM σ 5 j1 3) 5 j2 3))) C 1 0 (wM_g5 cy ad _) (tysW_0 cy) hF dX6_asAtFirst_7 (fun _ => wM_a5 _ _ _ _) (fun j2 hj2 hF => ?_)
  refine vv_aload_n C dX6_asAtFirst_8 0 rfl ?_
  refine vv_iconst (v := 2) C dX6_asAtFirst_9 (by decide) ?_
  refine vv_iconst (v := 3) C dX6_asAtFirst_10 (by decide) ?_
  refine vv_iast (w' := fun j3 => (wM cy ad (uM (uM (uM σ 5 j1 3) 5 j2 3) 5 j3 3))) C 1 0 (wM_g5 cy ad _) (tysW_0 cy) hF dX6_asAtFirst_11 (fun _ => wM_a5 _ _ _ _) (fun j3 hj3 hF => ?_)
  refine vv_aload_n C dX6_asAtFirst_12 0 rfl ?_
  refine vv_iconst (v := 3) C dX6_asAtFirst_13 (by decide) ?_
  refine vv_bipush (v := 9) C dX6_asAtFirst_14 (by decide) ?_
  refine vv_iast (w' := fun j4 => (wM cy ad (uM (uM (uM (uM σ 5 j1 3) 5 j2 3) 5 j3 3) 5 j4 9))) C 1 0 (wM_g5 cy ad _) (tysW_0 cy) hF dX6_asAtFirst_16 (fun _ => wM_a5 _ _ _ _) (fun j4 hj4 hF => ?_)
  refine vv_aload_n C dX6_asAtFirst_17 0 rfl ?_
  refine vv_iconst (v := 4) C dX6_asAtFirst_18 (by decide) ?_
  refine vv_iconst (v := 2) C dX6_asAtFirst_19 (by decide) ?_
  refine vv_iast (w' := fun j5 => (wM cy ad (uM (uM (uM (uM (uM σ 5 j1 3) 5 j2 3) 5 j3 3) 5 j4 9) 5 j5 2))) C 1 0 (wM_g5 cy ad _) (tysW_0 cy) hF dX6_asAtFirst_20 (fun _ => wM_a5 _ _ _ _) (fun j5 hj5 hF => ?_)
  refine vv_aload_n C dX6_asAtFirst_21 0 rfl ?_
  refine vv_iconst (v := 5) C dX6_asAtFirst_22 (by decide) ?_
  refine vv_bipush (v := 60) C dX6_asAtFirst_23 (by decide) ?_
  refine vv_iast (w' := fun j6 => (wM cy ad (uM (uM (uM (uM (uM (uM σ 5 j1 3) 5 j2 3) 5 j3 3) 5 j4 9) 5 j5 2) 5 j6 60))) C 1 0 (wM_g5 cy ad _) (tysW_0 cy) hF dX6_asAtFirst_25 (fun _ => wM_a5 _ _ _ _) (fun j6 hj6 hF => ?_)
  cases hF
  exact hr _ _ dX6_asAtFirst_26
/-! X6_asAtFirst_q6 -/
abbrev rmX6_asAtFirst_q6 : Room := { frames := 0, cells := 0, slots := 0, locals := 0 }
def fX6_asAtFirst_q6 (σ : St_) : Option St_ := (gd_ 0 6 fun j1 => (gd_ 1 6 fun j2 => (gd_ 2 6 fun j3 => (gd_ 3 6 fun j4 => (gd_ 4 6 fun j5 => (gd_ 5 6 fun j6 => some (uM (uM (uM (uM (uM (uM σ 6 j1 3) 6 j2 3) 6 j3 3) 6 j4 9) 6 j5 2) 6 j6 60)))))))
set_option maxHeartbeats 4000000 in
set_option maxRecDepth 20000 in
theorem kX6_asAtFirst_q6 (l : Launch) (D : va_G) (cy : Nat → ClassId) (ad : Nat → Nat) (σ : St_) (res : St_)  (hF : fX6_asAtFirst_q6 σ = some res) : ct_V l D (tysW cy) en_T yX6_asAtFirst wsX6_asAtFirst rmX6_asAtFirst_q6 [.ref (ad 6)] (wM cy ad σ) (wM cy ad res) := by
  refine mt_V (by decide) rfl (Nat.le_of_ble_eq_true rfl) ?_
  intro p e s m args below meth c A Q C h0 hr
  replace C : vv_X p s m args meth c D (tysW cy) A 1 cX6_asAtFirst RX6 wsX6_asAtFirst := C
  replace hF : ((gd_ 0 6 fun j1 => (gd_ 1 6 fun j2 => (gd_ 2 6 fun j3 => (gd_ 3 6 fun j4 => (gd_ 4 6 fun j5 => (gd_ 5 6 fun j6 => some (uM (uM (uM (uM (uM (uM σ 6 j1 3) 6 j2 3) 6 j3 3) 6 j4 9) 6 j5 2) 6 j6 60))))))) : Option St_) = some res := hF
  refine vv_lv [0] (lv' := [(0, .ref (ad 6))]) rfl ?_
  refine vv_aload_n C dX6_asAtFirst_0 0 rfl ?_
  refine vv_iconst (v := 0) C dX6_asAtFirst_1 (by decide) ?_
  refine vv_iconst (v := 3) C dX6_asAtFirst_2 (by decide) ?_
  refine vv_iast (w' := fun j1 => (wM cy ad (uM σ 6 j1 3))) C 2 0 (wM_g6 cy ad _) (tysW_0 cy) hF dX6_asAtFirst_3 (fun _ => wM_a6 _ _ _ _) (fun j1 hj1 hF => ?_)
  refine vv_aload_n C dX6_asAtFirst_4 0 rfl ?_
  refine vv_iconst (v := 1) C dX6_asAtFirst_5 (by decide) ?_
  refine vv_iconst (v := 3) C dX6_asAtFirst_6 (by decide) ?_
  refine vv_iast (w' := fun j2 => (wM cy ad (uM (uM σ 6 j1 3) 6 j2 3))) C 2 0 (wM_g6 cy ad _) (tysW_0 cy) hF dX6_asAtFirst_7 (fun _ => wM_a6 _ _ _ _) (fun j2 hj2 hF => ?_)
  refine vv_aload_n C dX6_asAtFirst_8 0 rfl ?_
  refine vv_iconst (v := 2) C dX6_asAtFirst_9 (by decide) ?_
  refine vv_iconst (v := 3) C dX6_asAtFirst_10 (by decide) ?_
  refine vv_iast (w' := fun j3 => (wM cy ad (uM (uM (uM σ 6 j1 3) 6 j2 3) 6 j3 3))) C 2 0 (wM_g6 cy ad _) (tysW_0 cy) hF dX6_asAtFirst_11 (fun _ => wM_a6 _ _ _ _) (fun j3 hj3 hF => ?_)
  refine vv_aload_n C dX6_asAtFirst_12 0 rfl ?_
  refine vv_iconst (v := 3) C dX6_asAtFirst_13 (by decide) ?_
  refine vv_bipush (v := 9) C dX6_asAtFirst_14 (by decide) ?_
  refine vv_iast (w' := fun j4 => (wM cy ad (uM (uM (uM (uM σ 6 j1 3) 6 j2 3) 6 j3 3) 6 j4 9))) C 2 0 (wM_g6 cy ad _) (tysW_0 cy) hF dX6_asAtFirst_16 (fun _ => wM_a6 _ _ _ _) (fun j4 hj4 hF => ?_)
  refine vv_aload_n C dX6_asAtFirst_17 0 rfl ?_
  refine vv_iconst (v := 4) C dX6_asAtFirst_18 (by decide) ?_
  refine vv_iconst (v := 2) C dX6_asAtFirst_19 (by decide) ?_
  refine vv_iast (w' := fun j5 => (wM cy ad (uM (uM (uM (uM (uM σ 6 j1 3) 6 j2 3) 6 j3 3) 6 j4 9) 6 j5 2))) C 2 0 (wM_g6 cy ad _) (tysW_0 cy) hF dX6_asAtFirst_20 (fun _ => wM_a6 _ _ _ _) (fun j5 hj5 hF => ?_)
  refine vv_aload_n C dX6_asAtFirst_21 0 rfl ?_
  refine vv_iconst (v := 5) C dX6_asAtFirst_22 (by decide) ?_
  refine vv_bipush (v := 60) C dX6_asAtFirst_23 (by decide) ?_
  refine vv_iast (w' := fun j6 => (wM cy ad (uM (uM (uM (uM (uM (uM σ 6 j1 3) 6 j2 3) 6 j3 3) 6 j4 9) 6 j5 2) 6 j6 60))) C 2 0 (wM_g6 cy ad _) (tysW_0 cy) hF dX6_asAtFirst_25 (fun _ => wM_a6 _ _ _ _) (fun j6 hj6 hF => ?_)
  cases hF
  exact hr _ _ dX6_asAtFirst_26
/-! X6_at -/
abbrev rmX6_at : Room := { frames := 0, cells := 0, slots := 0, locals := 0 }
theorem hi_X6_at_X6 : ∀ w ∈ wsX60, w ∈ wsX6_at := fun w h => List.mem_cons_of_mem _ (List.mem_append_right _ h)
def fX6_at (x1 : Int32) (x2 : Int32) (σ : St_) : Option Int32 := (if x2 ≤ x1 then some 0 else (gd_ x1 60 fun j1 => some ((sM σ 0 j1) &&& 255)))
set_option maxHeartbeats 4000000 in
set_option maxRecDepth 20000 in
theorem kX6_at (l : Launch) (D : va_G) (cy : Nat → ClassId) (ad : Nat → Nat) (x1 : Int32) (x2 : Int32) (σ : St_) (res : Int32)  (hF : fX6_at x1 x2 σ = some res) : ct_I l D (tysW cy) en_T yX6_at wsX6_at rmX6_at [.ref (ad 29), .int x1, .int x2] (wM cy ad σ) res (wM cy ad σ) := by
  refine mt_I (by decide) rfl (Nat.le_of_ble_eq_true rfl) ?_
  intro p e s m args below meth c A Q C h0 hr
  replace C : vv_X p s m args meth c D (tysW cy) A 3 cX6_at RX6 wsX6_at := C
  replace hF : ((if x2 ≤ x1 then some 0 else (gd_ x1 60 fun j1 => some ((sM σ 0 j1) &&& 255))) : Option Int32) = some res := hF
  refine vv_lv [0, 1, 2] (lv' := [(0, .ref (ad 29)), (1, .int x1), (2, .int x2)]) rfl ?_
  refine vv_iload_n C dX6_at_0 1 rfl ?_
  refine vv_iload_n C dX6_at_1 2 rfl ?_
  refine vv_icmp_ge (tgt := 18) C dX6_at_2 (by decide) hF (fun c2 hF => ?_) (fun c2 hF => ?_)
  · refine vv_iconst (v := 0) C dX6_at_18 (by decide) ?_
    cases hF
    exact hr _ _ dX6_at_19 rfl
  · refine vv_aload_n C dX6_at_5 0 rfl ?_
    refine vv_get (v := .ref (ad 0)) C (hi_X6_at_X6) 25 (wM_g29 cy ad _) rfl 0 (by decide) (List.mem_of_getElem? (i := 1) rfl) rfl dX6_at_6 ?_
    refine vv_iload_n C dX6_at_9 1 rfl ?_
    refine vv_bald C 0 2 (wM_g0 cy ad _) (tysW_2 cy) hF dX6_at_10 (fun j1 hj1 hF => ?_)
    refine vv_sipush (v := 255) C dX6_at_11 (by decide) ?_
    refine vv_iand C dX6_at_14 ?_
    refine vv_goto (tgt := 19) C dX6_at_15 (by decide) ?_
    cases hF
    exact hr _ _ dX6_at_19 rfl
/-! X6_reads -/
abbrev rmX6_reads : Room := { frames := 2, cells := 0, slots := 0, locals := 43 }
theorem hi_X6_reads_X6 : ∀ w ∈ wsX60, w ∈ wsX6_reads := fun w h => List.mem_cons_of_mem _ (List.mem_append_right _ h)
def fX6_reads_33 (x2 : Int32) (σ : St_) : Option (Int32 × St_) := some ((100 + x2), σ)
def fX6_reads_57 (x2 : Int32) (σ : St_) : Option (Int32 × St_) := some ((200 + x2), σ)
def fX6_reads_93 (x2 : Int32) (σ : St_) : Option (Int32 × St_) := some ((300 + x2), σ)
def fX6_reads_132 (x5 : Int32) (σ : St_) : Option (Int32 × St_) := some ((400 + x5), σ)
def fX6_reads_166 (x2 : Int32) (σ : St_) : Option (Int32 × St_) := some ((500 + x2), σ)
def fX6_reads_122 (k11 : Int32 → Int32 → Int32 → St_ → Option (Int32 × St_)) (x1 : Int32) (x2 : Int32) (x3 : Int32) (x4 : Int32) (x5 : Int32) (x6 : Int32) (σ : St_) : Option (Int32 × St_) := (bn_ (fX6_canBe x4 x6) fun r14 => (if r14 = 0 then fX6_reads_132  x5 σ else (gd_ x4 6 fun j15 => (if x2 = x1 then some (0, uM σ 6 j15 x6) else (bn_ (fX6_at x2 x1 (uM σ 6 j15 x6)) fun r16 => (if r16 = 59 then k11 x1 (x2 + 1) (x3 + 1) (uM σ 6 j15 x6) else fX6_reads_166  x2 (uM σ 6 j15 x6)))))))
def fX6_reads_69 (k11 : Int32 → Int32 → Int32 → St_ → Option (Int32 × St_)) : Nat → Int32 → Int32 → Int32 → Int32 → Int32 → Int32 → St_ → Option (Int32 × St_)
  | 0, _, _, _, _, _, _, _ => none
  | n + 1, x1, x2, x3, x4, x5, x6, σ => (bn_ (fX6_at x2 x1 σ) fun r9 => (bn_ (fX6_lies r9 48 57) fun r10 => (if r10 = 0 then fX6_reads_122 (k11) x1 x2 x3 x4 x5 x6 σ else (if x2 = (x5 + 4) then fX6_reads_93  x2 σ else (bn_ (fX6_at x2 x1 σ) fun r11 => fX6_reads_69 k11 n x1 (x2 + 1) x3 x4 x5 (((10 * x6) + r11) - 48) σ)))))
def fX6_reads_181 (x2 : Int32) (σ : St_) : Option (Int32 × St_) := some ((100 + x2), σ)
def fX6_reads_11 : Nat → Int32 → Int32 → Int32 → St_ → Option (Int32 × St_)
  | 0, _, _, _, _ => none
  | n + 1, x1, x2, x3, σ => (if x1 < x3 then fX6_reads_181  x2 σ else (bn_ (fX6_at x2 x1 σ) fun r2 => (bn_ (fX6_letter r2) fun r3 => (if r3 = (-1) then fX6_reads_33  x2 σ else (bn_ (fX6_at (x2 + 1) x1 σ) fun r4 => (bn_ (fX6_lies r4 48 57) fun r5 => (if r5 = 0 then fX6_reads_57  (x2 + 1) σ else fX6_reads_69 (fX6_reads_11  n) FU_ x1 (x2 + 1) x3 r3 (x2 + 1) 0 σ)))))))
def fX6_reads (x1 : Int32) (σ : St_) : Option (Int32 × St_) := (bn_ (fX6_asAtFirst_q6 σ) fun r1 => fX6_reads_11  FU_ x1 0 0 r1)
set_option maxHeartbeats 4000000 in
set_option maxRecDepth 20000 in
theorem vX6_reads_33 {p : Program} {l : Launch} {e : Env} {s : State} {m : MethodId} {args : Array Value} {below : List Frame} {meth : Method} {c : Code} {D : va_G} {A : Nat → Prop} {Q : State → Prop} {cy : Nat → ClassId} {ad : Nat → Nat} {res : Int32 × St_} (C : vv_X p s m args meth c D (tysW cy) A 7 cX6_reads RX6 wsX6_reads) (h0 : en_T A s) (hr : rt_I p l e rmX6_reads s m args below meth c D A 7 Q cX6_reads .int (wM cy ad res.2) res.1) : ∀ (x2 : Int32) (σ : St_), fX6_reads_33  x2 σ = some res → vv_ p l e rmX6_reads s m args below meth c D A 7 Q 0 0 (wM cy ad σ) [(2, .int x2)] 33 [] := by
  intro x2 σ hF
  replace hF : (some ((100 + x2), σ) : Option (Int32 × St_)) = some res := hF
  refine vv_bipush (v := 100) C dX6_reads_33 (by decide) ?_
  refine vv_iload_n C dX6_reads_35 0 rfl ?_
  refine vv_iadd C dX6_reads_36 ?_
  cases hF
  exact hr _ _ dX6_reads_37 rfl
set_option maxHeartbeats 4000000 in
set_option maxRecDepth 20000 in
theorem vX6_reads_57 {p : Program} {l : Launch} {e : Env} {s : State} {m : MethodId} {args : Array Value} {below : List Frame} {meth : Method} {c : Code} {D : va_G} {A : Nat → Prop} {Q : State → Prop} {cy : Nat → ClassId} {ad : Nat → Nat} {res : Int32 × St_} (C : vv_X p s m args meth c D (tysW cy) A 7 cX6_reads RX6 wsX6_reads) (h0 : en_T A s) (hr : rt_I p l e rmX6_reads s m args below meth c D A 7 Q cX6_reads .int (wM cy ad res.2) res.1) : ∀ (x2 : Int32) (σ : St_), fX6_reads_57  x2 σ = some res → vv_ p l e rmX6_reads s m args below meth c D A 7 Q 0 0 (wM cy ad σ) [(2, .int x2)] 57 [] := by
  intro x2 σ hF
  replace hF : (some ((200 + x2), σ) : Option (Int32 × St_)) = some res := hF
  refine vv_sipush (v := 200) C dX6_reads_57 (by decide) ?_
  refine vv_iload_n C dX6_reads_60 0 rfl ?_
  refine vv_iadd C dX6_reads_61 ?_
  cases hF
  exact hr _ _ dX6_reads_62 rfl
set_option maxHeartbeats 4000000 in
set_option maxRecDepth 20000 in
theorem vX6_reads_93 {p : Program} {l : Launch} {e : Env} {s : State} {m : MethodId} {args : Array Value} {below : List Frame} {meth : Method} {c : Code} {D : va_G} {A : Nat → Prop} {Q : State → Prop} {cy : Nat → ClassId} {ad : Nat → Nat} {res : Int32 × St_} (C : vv_X p s m args meth c D (tysW cy) A 7 cX6_reads RX6 wsX6_reads) (h0 : en_T A s) (hr : rt_I p l e rmX6_reads s m args below meth c D A 7 Q cX6_reads .int (wM cy ad res.2) res.1) : ∀ (x2 : Int32) (σ : St_), fX6_reads_93  x2 σ = some res → vv_ p l e rmX6_reads s m args below meth c D A 7 Q 0 0 (wM cy ad σ) [(2, .int x2)] 93 [] := by
  intro x2 σ hF
  replace hF : (some ((300 + x2), σ) : Option (Int32 × St_)) = some res := hF
  refine vv_sipush (v := 300) C dX6_reads_93 (by decide) ?_
  refine vv_iload_n C dX6_reads_96 0 rfl ?_
  refine vv_iadd C dX6_reads_97 ?_
  cases hF
  exact hr _ _ dX6_reads_98 rfl
set_option maxHeartbeats 4000000 in
set_option maxRecDepth 20000 in
theorem vX6_reads_132 {p : Program} {l : Launch} {e : Env} {s : State} {m : MethodId} {args : Array Value} {below : List Frame} {meth : Method} {c : Code} {D : va_G} {A : Nat → Prop} {Q : State → Prop} {cy : Nat → ClassId} {ad : Nat → Nat} {res : Int32 × St_} (C : vv_X p s m args meth c D (tysW cy) A 7 cX6_reads RX6 wsX6_reads) (h0 : en_T A s) (hr : rt_I p l e rmX6_reads s m args below meth c D A 7 Q cX6_reads .int (wM cy ad res.2) res.1) : ∀ (x5 : Int32) (σ : St_), fX6_reads_132  x5 σ = some res → vv_ p l e rmX6_reads s m args below meth c D A 7 Q 0 0 (wM cy ad σ) [(5, .int x5)] 132 [] := by
  intro x5 σ hF
  replace hF : (some ((400 + x5), σ) : Option (Int32 × St_)) = some res := hF
  refine vv_sipush (v := 400) C dX6_reads_132 (by decide) ?_
  refine vv_iload C dX6_reads_135 0 rfl ?_
  refine vv_iadd C dX6_reads_137 ?_
  cases hF
  exact hr _ _ dX6_reads_138 rfl
set_option maxHeartbeats 4000000 in
set_option maxRecDepth 20000 in
theorem vX6_reads_166 {p : Program} {l : Launch} {e : Env} {s : State} {m : MethodId} {args : Array Value} {below : List Frame} {meth : Method} {c : Code} {D : va_G} {A : Nat → Prop} {Q : State → Prop} {cy : Nat → ClassId} {ad : Nat → Nat} {res : Int32 × St_} (C : vv_X p s m args meth c D (tysW cy) A 7 cX6_reads RX6 wsX6_reads) (h0 : en_T A s) (hr : rt_I p l e rmX6_reads s m args below meth c D A 7 Q cX6_reads .int (wM cy ad res.2) res.1) : ∀ (x2 : Int32) (σ : St_), fX6_reads_166  x2 σ = some res → vv_ p l e rmX6_reads s m args below meth c D A 7 Q 0 0 (wM cy ad σ) [(2, .int x2)] 166 [] := by
  intro x2 σ hF
  replace hF : (some ((500 + x2), σ) : Option (Int32 × St_)) = some res := hF
  refine vv_sipush (v := 500) C dX6_reads_166 (by decide) ?_
  refine vv_iload_n C dX6_reads_169 0 rfl ?_
  refine vv_iadd C dX6_reads_170 ?_
  cases hF
  exact hr _ _ dX6_reads_171 rfl
set_option maxHeartbeats 4000000 in
set_option maxRecDepth 20000 in
theorem vX6_reads_122 {p : Program} {l : Launch} {e : Env} {s : State} {m : MethodId} {args : Array Value} {below : List Frame} {meth : Method} {c : Code} {D : va_G} {A : Nat → Prop} {Q : State → Prop} {cy : Nat → ClassId} {ad : Nat → Nat} {k11 : Int32 → Int32 → Int32 → St_ → Option (Int32 × St_)} {res : Int32 × St_} (C : vv_X p s m args meth c D (tysW cy) A 7 cX6_reads RX6 wsX6_reads) (h0 : en_T A s) (hr : rt_I p l e rmX6_reads s m args below meth c D A 7 Q cX6_reads .int (wM cy ad res.2) res.1) (hk11 : ∀ (x1 : Int32) (x2 : Int32) (x3 : Int32) (σ : St_), k11 x1 x2 x3 σ = some res → vv_ p l e rmX6_reads s m args below meth c D A 7 Q 0 0 (wM cy ad σ) [(0, .ref (ad 29)), (1, .int x1), (2, .int x2), (3, .int x3)] 11 []) : ∀ (x1 : Int32) (x2 : Int32) (x3 : Int32) (x4 : Int32) (x5 : Int32) (x6 : Int32) (σ : St_), fX6_reads_122 k11 x1 x2 x3 x4 x5 x6 σ = some res → vv_ p l e rmX6_reads s m args below meth c D A 7 Q 0 0 (wM cy ad σ) [(0, .ref (ad 29)), (1, .int x1), (2, .int x2), (3, .int x3), (4, .int x4), (5, .int x5), (6, .int x6)] 122 [] := by
  intro x1 x2 x3 x4 x5 x6 σ hF
  replace hF : ((bn_ (fX6_canBe x4 x6) fun r14 => (if r14 = 0 then fX6_reads_132  x5 σ else (gd_ x4 6 fun j15 => (if x2 = x1 then some (0, uM σ 6 j15 x6) else (bn_ (fX6_at x2 x1 (uM σ 6 j15 x6)) fun r16 => (if r16 = 59 then k11 x1 (x2 + 1) (x3 + 1) (uM σ 6 j15 x6) else fX6_reads_166  x2 (uM σ 6 j15 x6))))))) : Option (Int32 × St_)) = some res := hF
  refine vv_iload C dX6_reads_122 4 rfl ?_
  refine vv_iload C dX6_reads_124 6 rfl ?_
  refine vv_callSi (fun r14 => r14) (fun r14 => (wM cy ad σ)) C en_ok h0 [.int x4, .int x6] [] 2 hF (fun r14 hr14 => kX6_canBe l D (tysW cy) en_ok (wM cy ad σ) x4 x6 r14  hr14) gX6_reads_X6_canBe rfl rfl rfl (by decide +kernel) ⟨by decide, by decide⟩ rfl rfl (Nat.le_of_ble_eq_true rfl) dX6_reads_126 ⟨by decide, by decide⟩ (fun r14 hqr14 hF => ?_)
  refine vv_if_ne (tgt := 139) C dX6_reads_129 (by decide) hF (fun c19 hF => ?_) (fun c19 hF => ?_)
  · refine vv_aload_n C dX6_reads_139 0 rfl ?_
    refine vv_get (v := .ref (ad 6)) C (hi_X6_reads_X6) 25 (wM_g29 cy ad _) rfl 6 (by decide) (List.mem_of_getElem? (i := 1) rfl) rfl dX6_reads_140 ?_
    refine vv_iload C dX6_reads_143 4 rfl ?_
    refine vv_iload C dX6_reads_145 6 rfl ?_
    refine vv_iast (w' := fun j15 => (wM cy ad (uM σ 6 j15 x6))) C 2 0 (wM_g6 cy ad _) (tysW_0 cy) hF dX6_reads_147 (fun _ => wM_a6 _ _ _ _) (fun j15 hj15 hF => ?_)
    refine vv_iload_n C dX6_reads_148 2 rfl ?_
    refine vv_iload_n C dX6_reads_149 1 rfl ?_
    refine vv_icmp_ne (tgt := 155) C dX6_reads_150 (by decide) hF (fun c18 hF => ?_) (fun c18 hF => ?_)
    · refine vv_aload_n C dX6_reads_155 0 rfl ?_
      refine vv_iload_n C dX6_reads_156 2 rfl ?_
      refine vv_iload_n C dX6_reads_157 1 rfl ?_
      refine vv_callVi (fun r16 => r16) (fun r16 => (wM cy ad (uM σ 6 j15 x6))) C en_ok h0 [.int x2, .int x1] [] 2 hF (fun r16 hr16 => kX6_at l D cy ad x2 x1 (uM σ 6 j15 x6) r16  hr16) gX6_reads_X6_at rfl rfl rfl (by decide +kernel) ⟨by decide, by decide⟩ 25 (wM_g29 cy ad _) rfl rfl rfl (Nat.le_of_ble_eq_true rfl) dX6_reads_158 ⟨by decide, by decide⟩ (fun r16 hqr16 hF => ?_)
      refine vv_bipush (v := 59) C dX6_reads_161 (by decide) ?_
      refine vv_icmp_eq (tgt := 172) C dX6_reads_163 (by decide) hF (fun c17 hF => ?_) (fun c17 hF => ?_)
      · refine vv_iinc (q := 2) (v := x2 + 1) (lv' := [(2, .int (x2 + 1)), (0, .ref (ad 29)), (1, .int x1), (3, .int x3), (4, .int x4), (5, .int x5), (6, .int x6)]) C dX6_reads_172 rfl rfl (by decide) rfl ?_
        refine vv_iinc (q := 3) (v := x3 + 1) (lv' := [(3, .int (x3 + 1)), (2, .int (x2 + 1)), (0, .ref (ad 29)), (1, .int x1), (4, .int x4), (5, .int x5), (6, .int x6)]) C dX6_reads_175 rfl rfl (by decide) rfl ?_
        refine vv_goto (tgt := 11) C dX6_reads_178 (by decide) ?_
        refine vv_lv [2, 3, 1, 0] rfl ?_
        exact hk11 x1 (x2 + 1) (x3 + 1) (uM σ 6 j15 x6)  hF
      · refine vv_lv [2] rfl ?_
        exact vX6_reads_166 C h0 hr  x2 (uM σ 6 j15 x6)  hF
    · refine vv_iconst (v := 0) C dX6_reads_153 (by decide) ?_
      cases hF
      exact hr _ _ dX6_reads_154 rfl
  · refine vv_lv [5] rfl ?_
    exact vX6_reads_132 C h0 hr  x5 σ  hF
set_option maxHeartbeats 4000000 in
set_option maxRecDepth 20000 in
theorem vX6_reads_69 {p : Program} {l : Launch} {e : Env} {s : State} {m : MethodId} {args : Array Value} {below : List Frame} {meth : Method} {c : Code} {D : va_G} {A : Nat → Prop} {Q : State → Prop} {cy : Nat → ClassId} {ad : Nat → Nat} {k11 : Int32 → Int32 → Int32 → St_ → Option (Int32 × St_)} {res : Int32 × St_} (C : vv_X p s m args meth c D (tysW cy) A 7 cX6_reads RX6 wsX6_reads) (h0 : en_T A s) (hr : rt_I p l e rmX6_reads s m args below meth c D A 7 Q cX6_reads .int (wM cy ad res.2) res.1) (hk11 : ∀ (x1 : Int32) (x2 : Int32) (x3 : Int32) (σ : St_), k11 x1 x2 x3 σ = some res → vv_ p l e rmX6_reads s m args below meth c D A 7 Q 0 0 (wM cy ad σ) [(0, .ref (ad 29)), (1, .int x1), (2, .int x2), (3, .int x3)] 11 []) : ∀ (n : Nat) (x1 : Int32) (x2 : Int32) (x3 : Int32) (x4 : Int32) (x5 : Int32) (x6 : Int32) (σ : St_), fX6_reads_69 k11 n x1 x2 x3 x4 x5 x6 σ = some res → vv_ p l e rmX6_reads s m args below meth c D A 7 Q 0 0 (wM cy ad σ) [(0, .ref (ad 29)), (1, .int x1), (2, .int x2), (3, .int x3), (4, .int x4), (5, .int x5), (6, .int x6)] 69 [] := by
  intro n
  induction n with
  | zero =>
    intro x1 x2 x3 x4 x5 x6 σ hF
    cases (show none = some res from hF)
  | succ n ih =>
    intro x1 x2 x3 x4 x5 x6 σ hF
    replace hF : ((bn_ (fX6_at x2 x1 σ) fun r9 => (bn_ (fX6_lies r9 48 57) fun r10 => (if r10 = 0 then fX6_reads_122 (k11) x1 x2 x3 x4 x5 x6 σ else (if x2 = (x5 + 4) then fX6_reads_93  x2 σ else (bn_ (fX6_at x2 x1 σ) fun r11 => fX6_reads_69 k11 n x1 (x2 + 1) x3 x4 x5 (((10 * x6) + r11) - 48) σ))))) : Option (Int32 × St_)) = some res := hF
    refine vv_aload_n C dX6_reads_69 0 rfl ?_
    refine vv_iload_n C dX6_reads_70 2 rfl ?_
    refine vv_iload_n C dX6_reads_71 1 rfl ?_
    refine vv_callVi (fun r9 => r9) (fun r9 => (wM cy ad σ)) C en_ok h0 [.int x2, .int x1] [] 2 hF (fun r9 hr9 => kX6_at l D cy ad x2 x1 σ r9  hr9) gX6_reads_X6_at rfl rfl rfl (by decide +kernel) ⟨by decide, by decide⟩ 25 (wM_g29 cy ad _) rfl rfl rfl (Nat.le_of_ble_eq_true rfl) dX6_reads_72 ⟨by decide, by decide⟩ (fun r9 hqr9 hF => ?_)
    refine vv_bipush (v := 48) C dX6_reads_75 (by decide) ?_
    refine vv_bipush (v := 57) C dX6_reads_77 (by decide) ?_
    refine vv_callSi (fun r10 => r10) (fun r10 => (wM cy ad σ)) C en_ok h0 [.int r9, .int 48, .int 57] [] 3 hF (fun r10 hr10 => kX6_lies l D (tysW cy) en_ok (wM cy ad σ) r9 48 57 r10  hr10) gX6_reads_X6_lies rfl rfl rfl (by decide +kernel) ⟨by decide, by decide⟩ rfl rfl (Nat.le_of_ble_eq_true rfl) dX6_reads_79 ⟨by decide, by decide⟩ (fun r10 hqr10 hF => ?_)
    refine vv_if_eq (tgt := 122) C dX6_reads_82 (by decide) hF (fun c13 hF => ?_) (fun c13 hF => ?_)
    · refine vv_lv [0, 1, 2, 3, 4, 5, 6] rfl ?_
      exact vX6_reads_122 C h0 hr (hk11) x1 x2 x3 x4 x5 x6 σ  hF
    · refine vv_iload_n C dX6_reads_85 2 rfl ?_
      refine vv_iload C dX6_reads_86 5 rfl ?_
      refine vv_iconst (v := 4) C dX6_reads_88 (by decide) ?_
      refine vv_iadd C dX6_reads_89 ?_
      refine vv_icmp_ne (tgt := 99) C dX6_reads_90 (by decide) hF (fun c12 hF => ?_) (fun c12 hF => ?_)
      · refine vv_bipush (v := 10) C dX6_reads_99 (by decide) ?_
        refine vv_iload C dX6_reads_101 6 rfl ?_
        refine vv_imul C dX6_reads_103 ?_
        refine vv_aload_n C dX6_reads_104 0 rfl ?_
        refine vv_iload_n C dX6_reads_105 2 rfl ?_
        refine vv_iload_n C dX6_reads_106 1 rfl ?_
        refine vv_callVi (fun r11 => r11) (fun r11 => (wM cy ad σ)) C en_ok h0 [.int x2, .int x1] [.int (10 * x6)] 2 hF (fun r11 hr11 => kX6_at l D cy ad x2 x1 σ r11  hr11) gX6_reads_X6_at rfl rfl rfl (by decide +kernel) ⟨by decide, by decide⟩ 25 (wM_g29 cy ad _) rfl rfl rfl (Nat.le_of_ble_eq_true rfl) dX6_reads_107 ⟨by decide, by decide⟩ (fun r11 hqr11 hF => ?_)
        refine vv_iadd C dX6_reads_110 ?_
        refine vv_bipush (v := 48) C dX6_reads_111 (by decide) ?_
        refine vv_isub C dX6_reads_113 ?_
        refine vv_istore (lv' := [(6, .int (((10 * x6) + r11) - 48)), (0, .ref (ad 29)), (1, .int x1), (2, .int x2), (3, .int x3), (4, .int x4), (5, .int x5)]) C dX6_reads_114 (by decide) rfl ?_
        refine vv_iinc (q := 3) (v := x2 + 1) (lv' := [(2, .int (x2 + 1)), (6, .int (((10 * x6) + r11) - 48)), (0, .ref (ad 29)), (1, .int x1), (3, .int x3), (4, .int x4), (5, .int x5)]) C dX6_reads_116 rfl rfl (by decide) rfl ?_
        refine vv_goto (tgt := 69) C dX6_reads_119 (by decide) ?_
        refine vv_lv [2, 3, 0, 4, 5, 6, 1] rfl ?_
        exact ih x1 (x2 + 1) x3 x4 x5 (((10 * x6) + r11) - 48) σ  hF
      · refine vv_lv [2] rfl ?_
        exact vX6_reads_93 C h0 hr  x2 σ  hF
set_option maxHeartbeats 4000000 in
set_option maxRecDepth 20000 in
theorem vX6_reads_181 {p : Program} {l : Launch} {e : Env} {s : State} {m : MethodId} {args : Array Value} {below : List Frame} {meth : Method} {c : Code} {D : va_G} {A : Nat → Prop} {Q : State → Prop} {cy : Nat → ClassId} {ad : Nat → Nat} {res : Int32 × St_} (C : vv_X p s m args meth c D (tysW cy) A 7 cX6_reads RX6 wsX6_reads) (h0 : en_T A s) (hr : rt_I p l e rmX6_reads s m args below meth c D A 7 Q cX6_reads .int (wM cy ad res.2) res.1) : ∀ (x2 : Int32) (σ : St_), fX6_reads_181  x2 σ = some res → vv_ p l e rmX6_reads s m args below meth c D A 7 Q 0 0 (wM cy ad σ) [(2, .int x2)] 181 [] := by
  intro x2 σ hF
  replace hF : (some ((100 + x2), σ) : Option (Int32 × St_)) = some res := hF
  refine vv_bipush (v := 100) C dX6_reads_181 (by decide) ?_
  refine vv_iload_n C dX6_reads_183 0 rfl ?_
  refine vv_iadd C dX6_reads_184 ?_
  cases hF
  exact hr _ _ dX6_reads_185 rfl
set_option maxHeartbeats 4000000 in
set_option maxRecDepth 20000 in
theorem vX6_reads_11 {p : Program} {l : Launch} {e : Env} {s : State} {m : MethodId} {args : Array Value} {below : List Frame} {meth : Method} {c : Code} {D : va_G} {A : Nat → Prop} {Q : State → Prop} {cy : Nat → ClassId} {ad : Nat → Nat} {res : Int32 × St_} (C : vv_X p s m args meth c D (tysW cy) A 7 cX6_reads RX6 wsX6_reads) (h0 : en_T A s) (hr : rt_I p l e rmX6_reads s m args below meth c D A 7 Q cX6_reads .int (wM cy ad res.2) res.1) : ∀ (n : Nat) (x1 : Int32) (x2 : Int32) (x3 : Int32) (σ : St_), fX6_reads_11  n x1 x2 x3 σ = some res → vv_ p l e rmX6_reads s m args below meth c D A 7 Q 0 0 (wM cy ad σ) [(0, .ref (ad 29)), (1, .int x1), (2, .int x2), (3, .int x3)] 11 [] := by
  intro n
  induction n with
  | zero =>
    intro x1 x2 x3 σ hF
    cases (show none = some res from hF)
  | succ n ih =>
    intro x1 x2 x3 σ hF
    replace hF : ((if x1 < x3 then fX6_reads_181  x2 σ else (bn_ (fX6_at x2 x1 σ) fun r2 => (bn_ (fX6_letter r2) fun r3 => (if r3 = (-1) then fX6_reads_33  x2 σ else (bn_ (fX6_at (x2 + 1) x1 σ) fun r4 => (bn_ (fX6_lies r4 48 57) fun r5 => (if r5 = 0 then fX6_reads_57  (x2 + 1) σ else fX6_reads_69 (fX6_reads_11  n) FU_ x1 (x2 + 1) x3 r3 (x2 + 1) 0 σ))))))) : Option (Int32 × St_)) = some res := hF
    refine vv_iload_n C dX6_reads_11 3 rfl ?_
    refine vv_iload_n C dX6_reads_12 1 rfl ?_
    refine vv_icmp_gt (tgt := 181) C dX6_reads_13 (by decide) hF (fun c8 hF => ?_) (fun c8 hF => ?_)
    · refine vv_lv [2] rfl ?_
      exact vX6_reads_181 C h0 hr  x2 σ  hF
    · refine vv_aload_n C dX6_reads_16 0 rfl ?_
      refine vv_iload_n C dX6_reads_17 2 rfl ?_
      refine vv_iload_n C dX6_reads_18 1 rfl ?_
      refine vv_callVi (fun r2 => r2) (fun r2 => (wM cy ad σ)) C en_ok h0 [.int x2, .int x1] [] 2 hF (fun r2 hr2 => kX6_at l D cy ad x2 x1 σ r2  hr2) gX6_reads_X6_at rfl rfl rfl (by decide +kernel) ⟨by decide, by decide⟩ 25 (wM_g29 cy ad _) rfl rfl rfl (Nat.le_of_ble_eq_true rfl) dX6_reads_19 ⟨by decide, by decide⟩ (fun r2 hqr2 hF => ?_)
      refine vv_callSi (fun r3 => r3) (fun r3 => (wM cy ad σ)) C en_ok h0 [.int r2] [] 1 hF (fun r3 hr3 => kX6_letter l D (tysW cy) en_ok (wM cy ad σ) r2 r3  hr3) gX6_reads_X6_letter rfl rfl rfl (by decide +kernel) ⟨by decide, by decide⟩ rfl rfl (Nat.le_of_ble_eq_true rfl) dX6_reads_22 ⟨by decide, by decide⟩ (fun r3 hqr3 hF => ?_)
      refine vv_istore (lv' := [(4, .int r3), (0, .ref (ad 29)), (1, .int x1), (2, .int x2), (3, .int x3)]) C dX6_reads_25 (by decide) rfl ?_
      refine vv_iload C dX6_reads_27 0 rfl ?_
      refine vv_iconst (v := (-1)) C dX6_reads_29 (by decide) ?_
      refine vv_icmp_ne (tgt := 38) C dX6_reads_30 (by decide) hF (fun c7 hF => ?_) (fun c7 hF => ?_)
      · refine vv_iinc (q := 3) (v := x2 + 1) (lv' := [(2, .int (x2 + 1)), (4, .int r3), (0, .ref (ad 29)), (1, .int x1), (3, .int x3)]) C dX6_reads_38 rfl rfl (by decide) rfl ?_
        refine vv_aload_n C dX6_reads_41 2 rfl ?_
        refine vv_iload_n C dX6_reads_42 0 rfl ?_
        refine vv_iload_n C dX6_reads_43 3 rfl ?_
        refine vv_callVi (fun r4 => r4) (fun r4 => (wM cy ad σ)) C en_ok h0 [.int (x2 + 1), .int x1] [] 2 hF (fun r4 hr4 => kX6_at l D cy ad (x2 + 1) x1 σ r4  hr4) gX6_reads_X6_at rfl rfl rfl (by decide +kernel) ⟨by decide, by decide⟩ 25 (wM_g29 cy ad _) rfl rfl rfl (Nat.le_of_ble_eq_true rfl) dX6_reads_44 ⟨by decide, by decide⟩ (fun r4 hqr4 hF => ?_)
        refine vv_bipush (v := 48) C dX6_reads_47 (by decide) ?_
        refine vv_bipush (v := 57) C dX6_reads_49 (by decide) ?_
        refine vv_callSi (fun r5 => r5) (fun r5 => (wM cy ad σ)) C en_ok h0 [.int r4, .int 48, .int 57] [] 3 hF (fun r5 hr5 => kX6_lies l D (tysW cy) en_ok (wM cy ad σ) r4 48 57 r5  hr5) gX6_reads_X6_lies rfl rfl rfl (by decide +kernel) ⟨by decide, by decide⟩ rfl rfl (Nat.le_of_ble_eq_true rfl) dX6_reads_51 ⟨by decide, by decide⟩ (fun r5 hqr5 hF => ?_)
        refine vv_if_ne (tgt := 63) C dX6_reads_54 (by decide) hF (fun c6 hF => ?_) (fun c6 hF => ?_)
        · refine vv_iload_n C dX6_reads_63 0 rfl ?_
          refine vv_istore (lv' := [(5, .int (x2 + 1)), (2, .int (x2 + 1)), (4, .int r3), (0, .ref (ad 29)), (1, .int x1), (3, .int x3)]) C dX6_reads_64 (by decide) rfl ?_
          refine vv_iconst (v := 0) C dX6_reads_66 (by decide) ?_
          refine vv_istore (lv' := [(6, .int 0), (5, .int (x2 + 1)), (2, .int (x2 + 1)), (4, .int r3), (0, .ref (ad 29)), (1, .int x1), (3, .int x3)]) C dX6_reads_67 (by decide) rfl ?_
          refine vv_lv [4, 5, 2, 6, 3, 1, 0] rfl ?_
          exact vX6_reads_69 C h0 hr (ih) FU_ x1 (x2 + 1) x3 r3 (x2 + 1) 0 σ  hF
        · refine vv_lv [0] rfl ?_
          exact vX6_reads_57 C h0 hr  (x2 + 1) σ  hF
      · refine vv_lv [3] rfl ?_
        exact vX6_reads_33 C h0 hr  x2 σ  hF
set_option maxHeartbeats 4000000 in
set_option maxRecDepth 20000 in
theorem kX6_reads (l : Launch) (D : va_G) (cy : Nat → ClassId) (ad : Nat → Nat) (x1 : Int32) (σ : St_) (res : Int32 × St_)  (hF : fX6_reads x1 σ = some res) : ct_I l D (tysW cy) en_T yX6_reads wsX6_reads rmX6_reads [.ref (ad 29), .int x1] (wM cy ad σ) res.1 (wM cy ad res.2) := by
  refine mt_I (by decide) rfl (Nat.le_of_ble_eq_true rfl) ?_
  intro p e s m args below meth c A Q C h0 hr
  replace C : vv_X p s m args meth c D (tysW cy) A 7 cX6_reads RX6 wsX6_reads := C
  replace hF : ((bn_ (fX6_asAtFirst_q6 σ) fun r1 => fX6_reads_11  FU_ x1 0 0 r1) : Option (Int32 × St_)) = some res := hF
  refine vv_lv [0, 1] (lv' := [(0, .ref (ad 29)), (1, .int x1)]) rfl ?_
  refine vv_aload_n C dX6_reads_0 0 rfl ?_
  refine vv_get (v := .ref (ad 6)) C (hi_X6_reads_X6) 25 (wM_g29 cy ad _) rfl 6 (by decide) (List.mem_of_getElem? (i := 1) rfl) rfl dX6_reads_1 ?_
  refine vv_callSv  (fun r1 => (wM cy ad r1)) C en_ok h0 [.ref (ad 6)] [] 1 hF (fun r1 hr1 => kX6_asAtFirst_q6 l D cy ad σ r1  hr1) gX6_reads_X6_asAtFirst rfl rfl rfl (by decide +kernel) ⟨by decide, by decide⟩ rfl rfl (Nat.le_of_ble_eq_true rfl) dX6_reads_4 ⟨by decide, by decide⟩ (fun r1 hqr1 hF => ?_)
  refine vv_iconst (v := 0) C dX6_reads_7 (by decide) ?_
  refine vv_istore_n (lv' := [(2, .int 0), (0, .ref (ad 29)), (1, .int x1)]) C dX6_reads_8 (by decide) rfl ?_
  refine vv_iconst (v := 0) C dX6_reads_9 (by decide) ?_
  refine vv_istore_n (lv' := [(3, .int 0), (2, .int 0), (0, .ref (ad 29)), (1, .int x1)]) C dX6_reads_10 (by decide) rfl ?_
  refine vv_lv [2, 3, 1, 0] rfl ?_
  exact vX6_reads_11 C h0 hr  FU_ x1 0 0 r1  hF
/-! X6_rules -/
abbrev rmX6_rules : Room := { frames := 3, cells := 0, slots := 0, locals := 69 }
theorem hi_X6_rules_X6 : ∀ w ∈ wsX60, w ∈ wsX6_rules := fun w h => List.mem_cons_of_mem _ (List.mem_append_right _ h)
def fX6_rules_27 : Nat → Int32 → Int32 → St_ → Option (Int32 × St_)
  | 0, _, _, _ => none
  | n + 1, x2, x3, σ => (if 6 ≤ x3 then some (x2, σ) else (if x2 = 0 then (gd_ x3 6 fun j4 => (gd_ x3 6 fun j5 => fX6_rules_27  n x2 (x3 + 1) (uM σ 5 j5 (sM σ 6 j4)))) else some (x2, σ)))
def fX6_rules (x1 : Int32) (σ : St_) : Option (Int32 × St_) := (if x1 < 0 then some ((-1), σ) else (if x1 ≤ (sS σ 1) then (bn_ (fX6_reads x1 (uS σ 1 0)) fun r1 => fX6_rules_27  FU_ r1.1 0 r1.2) else some ((-1), σ)))
set_option maxHeartbeats 4000000 in
set_option maxRecDepth 20000 in
theorem vX6_rules_27 {p : Program} {l : Launch} {e : Env} {s : State} {m : MethodId} {args : Array Value} {below : List Frame} {meth : Method} {c : Code} {D : va_G} {A : Nat → Prop} {Q : State → Prop} {cy : Nat → ClassId} {ad : Nat → Nat} {res : Int32 × St_} (C : vv_X p s m args meth c D (tysW cy) A 4 cX6_rules RX6 wsX6_rules) (h0 : en_T A s) (hr : rt_I p l e rmX6_rules s m args below meth c D A 4 Q cX6_rules .int (wM cy ad res.2) res.1) : ∀ (n : Nat) (x2 : Int32) (x3 : Int32) (σ : St_), fX6_rules_27  n x2 x3 σ = some res → vv_ p l e rmX6_rules s m args below meth c D A 4 Q 0 0 (wM cy ad σ) [(0, .ref (ad 29)), (2, .int x2), (3, .int x3)] 27 [] := by
  intro n
  induction n with
  | zero =>
    intro x2 x3 σ hF
    cases (show none = some res from hF)
  | succ n ih =>
    intro x2 x3 σ hF
    replace hF : ((if 6 ≤ x3 then some (x2, σ) else (if x2 = 0 then (gd_ x3 6 fun j4 => (gd_ x3 6 fun j5 => fX6_rules_27  n x2 (x3 + 1) (uM σ 5 j5 (sM σ 6 j4)))) else some (x2, σ))) : Option (Int32 × St_)) = some res := hF
    refine vv_iload_n C dX6_rules_27 2 rfl ?_
    refine vv_bipush (v := 6) C dX6_rules_28 (by decide) ?_
    refine vv_icmp_ge (tgt := 55) C dX6_rules_30 (by decide) hF (fun c7 hF => ?_) (fun c7 hF => ?_)
    · refine vv_iload_n C dX6_rules_55 1 rfl ?_
      cases hF
      exact hr _ _ dX6_rules_56 rfl
    · refine vv_iload_n C dX6_rules_33 1 rfl ?_
      refine vv_if_ne (tgt := 55) C dX6_rules_34 (by decide) hF (fun c6 hF => ?_) (fun c6 hF => ?_)
      · refine vv_iload_n C dX6_rules_55 1 rfl ?_
        cases hF
        exact hr _ _ dX6_rules_56 rfl
      · refine vv_aload_n C dX6_rules_37 0 rfl ?_
        refine vv_get (v := .ref (ad 5)) C (hi_X6_rules_X6) 25 (wM_g29 cy ad _) rfl 5 (by decide) (List.mem_of_getElem? (i := 2) rfl) rfl dX6_rules_38 ?_
        refine vv_iload_n C dX6_rules_41 2 rfl ?_
        refine vv_aload_n C dX6_rules_42 0 rfl ?_
        refine vv_get (v := .ref (ad 6)) C (hi_X6_rules_X6) 25 (wM_g29 cy ad _) rfl 6 (by decide) (List.mem_of_getElem? (i := 3) rfl) rfl dX6_rules_43 ?_
        refine vv_iload_n C dX6_rules_46 2 rfl ?_
        refine vv_iald C 2 0 (wM_g6 cy ad _) (tysW_0 cy) hF dX6_rules_47 (fun j4 hj4 hF => ?_)
        refine vv_iast (w' := fun j5 => (wM cy ad (uM σ 5 j5 (sM σ 6 j4)))) C 1 0 (wM_g5 cy ad _) (tysW_0 cy) hF dX6_rules_48 (fun _ => wM_a5 _ _ _ _) (fun j5 hj5 hF => ?_)
        refine vv_iinc (q := 2) (v := x3 + 1) (lv' := [(3, .int (x3 + 1)), (0, .ref (ad 29)), (2, .int x2)]) C dX6_rules_49 rfl rfl (by decide) rfl ?_
        refine vv_goto (tgt := 27) C dX6_rules_52 (by decide) ?_
        refine vv_lv [1, 2, 0] rfl ?_
        exact ih x2 (x3 + 1) (uM σ 5 j5 (sM σ 6 j4))  hF
set_option maxHeartbeats 4000000 in
set_option maxRecDepth 20000 in
theorem kX6_rules (l : Launch) (D : va_G) (cy : Nat → ClassId) (ad : Nat → Nat) (x1 : Int32) (σ : St_) (res : Int32 × St_)  (hF : fX6_rules x1 σ = some res) : ct_I l D (tysW cy) en_T yX6_rules wsX6_rules rmX6_rules [.ref (ad 29), .int x1] (wM cy ad σ) res.1 (wM cy ad res.2) := by
  refine mt_I (by decide) rfl (Nat.le_of_ble_eq_true rfl) ?_
  intro p e s m args below meth c A Q C h0 hr
  replace C : vv_X p s m args meth c D (tysW cy) A 4 cX6_rules RX6 wsX6_rules := C
  replace hF : ((if x1 < 0 then some ((-1), σ) else (if x1 ≤ (sS σ 1) then (bn_ (fX6_reads x1 (uS σ 1 0)) fun r1 => fX6_rules_27  FU_ r1.1 0 r1.2) else some ((-1), σ))) : Option (Int32 × St_)) = some res := hF
  refine vv_lv [0, 1] (lv' := [(0, .ref (ad 29)), (1, .int x1)]) rfl ?_
  refine vv_iload_n C dX6_rules_0 1 rfl ?_
  refine vv_if_lt (tgt := 12) C dX6_rules_1 (by decide) hF (fun c3 hF => ?_) (fun c3 hF => ?_)
  · refine vv_iconst (v := (-1)) C dX6_rules_12 (by decide) ?_
    cases hF
    exact hr _ _ dX6_rules_13 rfl
  · refine vv_iload_n C dX6_rules_4 1 rfl ?_
    refine vv_aload_n C dX6_rules_5 0 rfl ?_
    refine vv_get (v := .int (sS σ 1)) C (hi_X6_rules_X6) 25 (wM_g29 cy ad _) rfl 1 (by decide) (List.mem_of_getElem? (i := 1) rfl) rfl dX6_rules_6 ?_
    refine vv_icmp_le (tgt := 14) C dX6_rules_9 (by decide) hF (fun c2 hF => ?_) (fun c2 hF => ?_)
    · refine vv_aload_n C dX6_rules_14 0 rfl ?_
      refine vv_iconst (v := 0) C dX6_rules_15 (by decide) ?_
      refine vv_put (w' := (wM cy ad (uS σ 1 0))) C (hi_X6_rules_X6) tyX6 tyX6_ok nmX6 25 (wM_g29 cy ad _) rfl 1 (by decide) (List.mem_of_getElem? (i := 1) rfl) rfl rfl rfl (Nat.le_of_ble_eq_true rfl) dX6_rules_16 (wM_s1 _ _ _ _) ?_
      refine vv_aload_n C dX6_rules_19 0 rfl ?_
      refine vv_iload_n C dX6_rules_20 1 rfl ?_
      refine vv_callVi (fun r1 => r1.1) (fun r1 => (wM cy ad r1.2)) C en_ok h0 [.int x1] [] 1 hF (fun r1 hr1 => kX6_reads l D cy ad x1 (uS σ 1 0) r1  hr1) gX6_rules_X6_reads rfl rfl rfl (by decide +kernel) ⟨by decide, by decide⟩ 25 (wM_g29 cy ad _) rfl rfl rfl (Nat.le_of_ble_eq_true rfl) dX6_rules_21 ⟨by decide, by decide⟩ (fun r1 hqr1 hF => ?_)
      refine vv_istore_n (lv' := [(2, .int r1.1), (0, .ref (ad 29)), (1, .int x1)]) C dX6_rules_24 (by decide) rfl ?_
      refine vv_iconst (v := 0) C dX6_rules_25 (by decide) ?_
      refine vv_istore_n (lv' := [(3, .int 0), (2, .int r1.1), (0, .ref (ad 29)), (1, .int x1)]) C dX6_rules_26 (by decide) rfl ?_
      refine vv_lv [2, 1, 0] rfl ?_
      exact vX6_rules_27 C h0 hr  FU_ r1.1 0 r1.2  hF
    · refine vv_iconst (v := (-1)) C dX6_rules_12 (by decide) ?_
      cases hF
      exact hr _ _ dX6_rules_13 rfl
/-! X6_isFarm -/
abbrev rmX6_isFarm : Room := { frames := 1, cells := 0, slots := 0, locals := 22 }
theorem hi_X6_isFarm_X6 : ∀ w ∈ wsX60, w ∈ wsX6_isFarm := fun w h => List.mem_cons_of_mem _ (List.mem_append_right _ h)
def fX6_isFarm (x1 : Int32) (σ : St_) : Option Int32 := (bn_ (fX6_lies x1 0 ((sS σ 2) - 1)) fun r1 => (gz_ r1 (some r1)))
set_option maxHeartbeats 4000000 in
set_option maxRecDepth 20000 in
theorem kX6_isFarm (l : Launch) (D : va_G) (cy : Nat → ClassId) (ad : Nat → Nat) (x1 : Int32) (σ : St_) (res : Int32)  (hF : fX6_isFarm x1 σ = some res) : ct_I l D (tysW cy) en_T yX6_isFarm wsX6_isFarm rmX6_isFarm [.ref (ad 29), .int x1] (wM cy ad σ) res (wM cy ad σ) := by
  refine mt_I (by decide) rfl (Nat.le_of_ble_eq_true rfl) ?_
  intro p e s m args below meth c A Q C h0 hr
  replace C : vv_X p s m args meth c D (tysW cy) A 2 cX6_isFarm RX6 wsX6_isFarm := C
  replace hF : ((bn_ (fX6_lies x1 0 ((sS σ 2) - 1)) fun r1 => (gz_ r1 (some r1))) : Option Int32) = some res := hF
  refine vv_lv [0, 1] (lv' := [(0, .ref (ad 29)), (1, .int x1)]) rfl ?_
  refine vv_iload_n C dX6_isFarm_0 1 rfl ?_
  refine vv_iconst (v := 0) C dX6_isFarm_1 (by decide) ?_
  refine vv_aload_n C dX6_isFarm_2 0 rfl ?_
  refine vv_get (v := .int (sS σ 2)) C (hi_X6_isFarm_X6) 25 (wM_g29 cy ad _) rfl 2 (by decide) (List.mem_of_getElem? (i := 1) rfl) rfl dX6_isFarm_3 ?_
  refine vv_iconst (v := 1) C dX6_isFarm_6 (by decide) ?_
  refine vv_isub C dX6_isFarm_7 ?_
  refine vv_callSi (fun r1 => r1) (fun r1 => (wM cy ad σ)) C en_ok h0 [.int x1, .int 0, .int ((sS σ 2) - 1)] [] 3 hF (fun r1 hr1 => kX6_lies l D (tysW cy) en_ok (wM cy ad σ) x1 0 ((sS σ 2) - 1) r1  hr1) gX6_isFarm_X6_lies rfl rfl rfl (by decide +kernel) ⟨by decide, by decide⟩ rfl rfl (Nat.le_of_ble_eq_true rfl) dX6_isFarm_8 ⟨by decide, by decide⟩ (fun r1 hqr1 hF => ?_)
  obtain ⟨hz, hF⟩ := gz_some hF
  cases hF
  exact hr _ _ dX6_isFarm_11 (gz_nar hz)
/-! X6_farm -/
abbrev rmX6_farm : Room := { frames := 1, cells := 0, slots := 0, locals := 22 }
theorem hi_X6_farm_X6 : ∀ w ∈ wsX60, w ∈ wsX6_farm := fun w h => List.mem_cons_of_mem _ (List.mem_append_right _ h)
def fX6_farm (x1 : Int32) (x2 : Int32) (σ : St_) : Option (Int32 × St_) := (if (sS σ 2) = 10 then some ((-1), σ) else (bn_ (fX6_lies x1 0 7) fun r1 => (if r1 = 0 then some ((-1), σ) else (bn_ (fX6_lies x2 0 3) fun r2 => (if r2 = 0 then some ((-1), σ) else (gd_ (sS σ 2) 10 fun j3 => (gd_ (sS (uM σ 7 j3 x1) 2) 10 fun j4 => some (((sS (uS (uM (uM σ 7 j3 x1) 8 j4 x2) 2 ((sS (uM (uM σ 7 j3 x1) 8 j4 x2) 2) + 1)) 2) - 1), uS (uM (uM σ 7 j3 x1) 8 j4 x2) 2 ((sS (uM (uM σ 7 j3 x1) 8 j4 x2) 2) + 1)))))))))
set_option maxHeartbeats 4000000 in
set_option maxRecDepth 20000 in
theorem kX6_farm (l : Launch) (D : va_G) (cy : Nat → ClassId) (ad : Nat → Nat) (x1 : Int32) (x2 : Int32) (σ : St_) (res : Int32 × St_)  (hF : fX6_farm x1 x2 σ = some res) : ct_I l D (tysW cy) en_T yX6_farm wsX6_farm rmX6_farm [.ref (ad 29), .int x1, .int x2] (wM cy ad σ) res.1 (wM cy ad res.2) := by
  refine mt_I (by decide) rfl (Nat.le_of_ble_eq_true rfl) ?_
  intro p e s m args below meth c A Q C h0 hr
  replace C : vv_X p s m args meth c D (tysW cy) A 3 cX6_farm RX6 wsX6_farm := C
  replace hF : ((if (sS σ 2) = 10 then some ((-1), σ) else (bn_ (fX6_lies x1 0 7) fun r1 => (if r1 = 0 then some ((-1), σ) else (bn_ (fX6_lies x2 0 3) fun r2 => (if r2 = 0 then some ((-1), σ) else (gd_ (sS σ 2) 10 fun j3 => (gd_ (sS (uM σ 7 j3 x1) 2) 10 fun j4 => some (((sS (uS (uM (uM σ 7 j3 x1) 8 j4 x2) 2 ((sS (uM (uM σ 7 j3 x1) 8 j4 x2) 2) + 1)) 2) - 1), uS (uM (uM σ 7 j3 x1) 8 j4 x2) 2 ((sS (uM (uM σ 7 j3 x1) 8 j4 x2) 2) + 1))))))))) : Option (Int32 × St_)) = some res := hF
  refine vv_lv [0, 1, 2] (lv' := [(0, .ref (ad 29)), (1, .int x1), (2, .int x2)]) rfl ?_
  refine vv_aload_n C dX6_farm_0 0 rfl ?_
  refine vv_get (v := .int (sS σ 2)) C (hi_X6_farm_X6) 25 (wM_g29 cy ad _) rfl 2 (by decide) (List.mem_of_getElem? (i := 1) rfl) rfl dX6_farm_1 ?_
  refine vv_bipush (v := 10) C dX6_farm_4 (by decide) ?_
  refine vv_icmp_eq (tgt := 28) C dX6_farm_6 (by decide) hF (fun c7 hF => ?_) (fun c7 hF => ?_)
  · refine vv_iconst (v := (-1)) C dX6_farm_28 (by decide) ?_
    cases hF
    exact hr _ _ dX6_farm_29 rfl
  · refine vv_iload_n C dX6_farm_9 1 rfl ?_
    refine vv_iconst (v := 0) C dX6_farm_10 (by decide) ?_
    refine vv_bipush (v := 7) C dX6_farm_11 (by decide) ?_
    refine vv_callSi (fun r1 => r1) (fun r1 => (wM cy ad σ)) C en_ok h0 [.int x1, .int 0, .int 7] [] 3 hF (fun r1 hr1 => kX6_lies l D (tysW cy) en_ok (wM cy ad σ) x1 0 7 r1  hr1) gX6_farm_X6_lies rfl rfl rfl (by decide +kernel) ⟨by decide, by decide⟩ rfl rfl (Nat.le_of_ble_eq_true rfl) dX6_farm_13 ⟨by decide, by decide⟩ (fun r1 hqr1 hF => ?_)
    refine vv_if_eq (tgt := 28) C dX6_farm_16 (by decide) hF (fun c6 hF => ?_) (fun c6 hF => ?_)
    · refine vv_iconst (v := (-1)) C dX6_farm_28 (by decide) ?_
      cases hF
      exact hr _ _ dX6_farm_29 rfl
    · refine vv_iload_n C dX6_farm_19 2 rfl ?_
      refine vv_iconst (v := 0) C dX6_farm_20 (by decide) ?_
      refine vv_iconst (v := 3) C dX6_farm_21 (by decide) ?_
      refine vv_callSi (fun r2 => r2) (fun r2 => (wM cy ad σ)) C en_ok h0 [.int x2, .int 0, .int 3] [] 3 hF (fun r2 hr2 => kX6_lies l D (tysW cy) en_ok (wM cy ad σ) x2 0 3 r2  hr2) gX6_farm_X6_lies rfl rfl rfl (by decide +kernel) ⟨by decide, by decide⟩ rfl rfl (Nat.le_of_ble_eq_true rfl) dX6_farm_22 ⟨by decide, by decide⟩ (fun r2 hqr2 hF => ?_)
      refine vv_if_ne (tgt := 30) C dX6_farm_25 (by decide) hF (fun c5 hF => ?_) (fun c5 hF => ?_)
      · refine vv_aload_n C dX6_farm_30 0 rfl ?_
        refine vv_get (v := .ref (ad 7)) C (hi_X6_farm_X6) 25 (wM_g29 cy ad _) rfl 7 (by decide) (List.mem_of_getElem? (i := 2) rfl) rfl dX6_farm_31 ?_
        refine vv_aload_n C dX6_farm_34 0 rfl ?_
        refine vv_get (v := .int (sS σ 2)) C (hi_X6_farm_X6) 25 (wM_g29 cy ad _) rfl 2 (by decide) (List.mem_of_getElem? (i := 1) rfl) rfl dX6_farm_35 ?_
        refine vv_iload_n C dX6_farm_38 1 rfl ?_
        refine vv_iast (w' := fun j3 => (wM cy ad (uM σ 7 j3 x1))) C 3 0 (wM_g7 cy ad _) (tysW_0 cy) hF dX6_farm_39 (fun _ => wM_a7 _ _ _ _) (fun j3 hj3 hF => ?_)
        refine vv_aload_n C dX6_farm_40 0 rfl ?_
        refine vv_get (v := .ref (ad 8)) C (hi_X6_farm_X6) 25 (wM_g29 cy ad _) rfl 8 (by decide) (List.mem_of_getElem? (i := 3) rfl) rfl dX6_farm_41 ?_
        refine vv_aload_n C dX6_farm_44 0 rfl ?_
        refine vv_get (v := .int (sS (uM σ 7 j3 x1) 2)) C (hi_X6_farm_X6) 25 (wM_g29 cy ad _) rfl 2 (by decide) (List.mem_of_getElem? (i := 1) rfl) rfl dX6_farm_45 ?_
        refine vv_iload_n C dX6_farm_48 2 rfl ?_
        refine vv_iast (w' := fun j4 => (wM cy ad (uM (uM σ 7 j3 x1) 8 j4 x2))) C 4 0 (wM_g8 cy ad _) (tysW_0 cy) hF dX6_farm_49 (fun _ => wM_a8 _ _ _ _) (fun j4 hj4 hF => ?_)
        refine vv_aload_n C dX6_farm_50 0 rfl ?_
        refine vv_dup C dX6_farm_51 rfl ?_
        refine vv_get (v := .int (sS (uM (uM σ 7 j3 x1) 8 j4 x2) 2)) C (hi_X6_farm_X6) 25 (wM_g29 cy ad _) rfl 2 (by decide) (List.mem_of_getElem? (i := 1) rfl) rfl dX6_farm_52 ?_
        refine vv_iconst (v := 1) C dX6_farm_55 (by decide) ?_
        refine vv_iadd C dX6_farm_56 ?_
        refine vv_put (w' := (wM cy ad (uS (uM (uM σ 7 j3 x1) 8 j4 x2) 2 ((sS (uM (uM σ 7 j3 x1) 8 j4 x2) 2) + 1)))) C (hi_X6_farm_X6) tyX6 tyX6_ok nmX6 25 (wM_g29 cy ad _) rfl 2 (by decide) (List.mem_of_getElem? (i := 1) rfl) rfl rfl rfl (Nat.le_of_ble_eq_true rfl) dX6_farm_57 (wM_s2 _ _ _ _) ?_
        refine vv_aload_n C dX6_farm_60 0 rfl ?_
        refine vv_get (v := .int (sS (uS (uM (uM σ 7 j3 x1) 8 j4 x2) 2 ((sS (uM (uM σ 7 j3 x1) 8 j4 x2) 2) + 1)) 2)) C (hi_X6_farm_X6) 25 (wM_g29 cy ad _) rfl 2 (by decide) (List.mem_of_getElem? (i := 1) rfl) rfl dX6_farm_61 ?_
        refine vv_iconst (v := 1) C dX6_farm_64 (by decide) ?_
        refine vv_isub C dX6_farm_65 ?_
        cases hF
        exact hr _ _ dX6_farm_66 rfl
      · refine vv_iconst (v := (-1)) C dX6_farm_28 (by decide) ?_
        cases hF
        exact hr _ _ dX6_farm_29 rfl
/-! X6_buys -/
abbrev rmX6_buys : Room := { frames := 2, cells := 0, slots := 0, locals := 43 }
theorem hi_X6_buys_X6 : ∀ w ∈ wsX60, w ∈ wsX6_buys := fun w h => List.mem_cons_of_mem _ (List.mem_append_right _ h)
def fX6_buys (x1 : Int32) (x2 : Int32) (x3 : Int32) (σ : St_) : Option (Int32 × St_) := (bn_ (fX6_isFarm x1 σ) fun r1 => (if r1 = 0 then some (0, σ) else (bn_ (fX6_isFarm x2 σ) fun r2 => (if r2 = 0 then some (0, σ) else (if x1 = x2 then some (0, σ) else (gd_ ((10 * x1) + x2) 100 fun j3 => (if (sM σ 16 j3) = x3 then some (0, σ) else (gd_ ((10 * x1) + x2) 100 fun j4 => some (1, uM σ 16 j4 (vp_nar .boolean x3))))))))))
set_option maxHeartbeats 4000000 in
set_option maxRecDepth 20000 in
theorem kX6_buys (l : Launch) (D : va_G) (cy : Nat → ClassId) (ad : Nat → Nat) (x1 : Int32) (x2 : Int32) (x3 : Int32) (σ : St_) (res : Int32 × St_)  (hF : fX6_buys x1 x2 x3 σ = some res) : ct_I l D (tysW cy) en_T yX6_buys wsX6_buys rmX6_buys [.ref (ad 29), .int x1, .int x2, .int x3] (wM cy ad σ) res.1 (wM cy ad res.2) := by
  refine mt_I (by decide) rfl (Nat.le_of_ble_eq_true rfl) ?_
  intro p e s m args below meth c A Q C h0 hr
  replace C : vv_X p s m args meth c D (tysW cy) A 4 cX6_buys RX6 wsX6_buys := C
  replace hF : ((bn_ (fX6_isFarm x1 σ) fun r1 => (if r1 = 0 then some (0, σ) else (bn_ (fX6_isFarm x2 σ) fun r2 => (if r2 = 0 then some (0, σ) else (if x1 = x2 then some (0, σ) else (gd_ ((10 * x1) + x2) 100 fun j3 => (if (sM σ 16 j3) = x3 then some (0, σ) else (gd_ ((10 * x1) + x2) 100 fun j4 => some (1, uM σ 16 j4 (vp_nar .boolean x3)))))))))) : Option (Int32 × St_)) = some res := hF
  refine vv_lv [0, 1, 2, 3] (lv' := [(0, .ref (ad 29)), (1, .int x1), (2, .int x2), (3, .int x3)]) rfl ?_
  refine vv_aload_n C dX6_buys_0 0 rfl ?_
  refine vv_iload_n C dX6_buys_1 1 rfl ?_
  refine vv_callVi (fun r1 => r1) (fun r1 => (wM cy ad σ)) C en_ok h0 [.int x1] [] 1 hF (fun r1 hr1 => kX6_isFarm l D cy ad x1 σ r1  hr1) gX6_buys_X6_isFarm rfl rfl rfl (by decide +kernel) ⟨by decide, by decide⟩ 25 (wM_g29 cy ad _) rfl rfl rfl (Nat.le_of_ble_eq_true rfl) dX6_buys_2 ⟨by decide, by decide⟩ (fun r1 hqr1 hF => ?_)
  refine vv_if_eq (tgt := 36) C dX6_buys_5 (by decide) hF (fun c8 hF => ?_) (fun c8 hF => ?_)
  · refine vv_iconst (v := 0) C dX6_buys_36 (by decide) ?_
    cases hF
    exact hr _ _ dX6_buys_37 nb_Z0
  · refine vv_aload_n C dX6_buys_8 0 rfl ?_
    refine vv_iload_n C dX6_buys_9 2 rfl ?_
    refine vv_callVi (fun r2 => r2) (fun r2 => (wM cy ad σ)) C en_ok h0 [.int x2] [] 1 hF (fun r2 hr2 => kX6_isFarm l D cy ad x2 σ r2  hr2) gX6_buys_X6_isFarm rfl rfl rfl (by decide +kernel) ⟨by decide, by decide⟩ 25 (wM_g29 cy ad _) rfl rfl rfl (Nat.le_of_ble_eq_true rfl) dX6_buys_10 ⟨by decide, by decide⟩ (fun r2 hqr2 hF => ?_)
    refine vv_if_eq (tgt := 36) C dX6_buys_13 (by decide) hF (fun c7 hF => ?_) (fun c7 hF => ?_)
    · refine vv_iconst (v := 0) C dX6_buys_36 (by decide) ?_
      cases hF
      exact hr _ _ dX6_buys_37 nb_Z0
    · refine vv_iload_n C dX6_buys_16 1 rfl ?_
      refine vv_iload_n C dX6_buys_17 2 rfl ?_
      refine vv_icmp_eq (tgt := 36) C dX6_buys_18 (by decide) hF (fun c6 hF => ?_) (fun c6 hF => ?_)
      · refine vv_iconst (v := 0) C dX6_buys_36 (by decide) ?_
        cases hF
        exact hr _ _ dX6_buys_37 nb_Z0
      · refine vv_aload_n C dX6_buys_21 0 rfl ?_
        refine vv_get (v := .ref (ad 16)) C (hi_X6_buys_X6) 25 (wM_g29 cy ad _) rfl 16 (by decide) (List.mem_of_getElem? (i := 1) rfl) rfl dX6_buys_22 ?_
        refine vv_bipush (v := 10) C dX6_buys_25 (by decide) ?_
        refine vv_iload_n C dX6_buys_27 1 rfl ?_
        refine vv_imul C dX6_buys_28 ?_
        refine vv_iload_n C dX6_buys_29 2 rfl ?_
        refine vv_iadd C dX6_buys_30 ?_
        refine vv_zald C 12 1 (wM_g16 cy ad _) (tysW_1 cy) hF dX6_buys_31 (fun j3 hj3 hF => ?_)
        refine vv_iload_n C dX6_buys_32 3 rfl ?_
        refine vv_icmp_ne (tgt := 38) C dX6_buys_33 (by decide) hF (fun c5 hF => ?_) (fun c5 hF => ?_)
        · refine vv_aload_n C dX6_buys_38 0 rfl ?_
          refine vv_get (v := .ref (ad 16)) C (hi_X6_buys_X6) 25 (wM_g29 cy ad _) rfl 16 (by decide) (List.mem_of_getElem? (i := 1) rfl) rfl dX6_buys_39 ?_
          refine vv_bipush (v := 10) C dX6_buys_42 (by decide) ?_
          refine vv_iload_n C dX6_buys_44 1 rfl ?_
          refine vv_imul C dX6_buys_45 ?_
          refine vv_iload_n C dX6_buys_46 2 rfl ?_
          refine vv_iadd C dX6_buys_47 ?_
          refine vv_iload_n C dX6_buys_48 3 rfl ?_
          refine vv_zast (w' := fun j4 => (wM cy ad (uM σ 16 j4 (vp_nar .boolean x3)))) C 12 1 (wM_g16 cy ad _) (tysW_1 cy) hF dX6_buys_49 (fun _ => wM_a16 _ _ _ _) (fun j4 hj4 hF => ?_)
          refine vv_iconst (v := 1) C dX6_buys_50 (by decide) ?_
          cases hF
          exact hr _ _ dX6_buys_51 nb_Z1
        · refine vv_iconst (v := 0) C dX6_buys_36 (by decide) ?_
          cases hF
          exact hr _ _ dX6_buys_37 nb_Z0
/-! X6_weight -/
abbrev rmX6_weight : Room := { frames := 1, cells := 0, slots := 0, locals := 22 }
theorem hi_X6_weight_X6 : ∀ w ∈ wsX60, w ∈ wsX6_weight := fun w h => List.mem_cons_of_mem _ (List.mem_append_right _ h)
def fX6_weight (x1 : Int32) (x2 : Int32) (σ : St_) : Option (Int32 × St_) := (bn_ (fX6_lies x1 0 7) fun r1 => (if r1 = 0 then some (0, σ) else (bn_ (fX6_lies x2 1 99) fun r2 => (if r2 = 0 then some (0, σ) else (gd_ x1 8 fun j3 => some (1, uM σ 9 j3 x2))))))
set_option maxHeartbeats 4000000 in
set_option maxRecDepth 20000 in
theorem kX6_weight (l : Launch) (D : va_G) (cy : Nat → ClassId) (ad : Nat → Nat) (x1 : Int32) (x2 : Int32) (σ : St_) (res : Int32 × St_)  (hF : fX6_weight x1 x2 σ = some res) : ct_I l D (tysW cy) en_T yX6_weight wsX6_weight rmX6_weight [.ref (ad 29), .int x1, .int x2] (wM cy ad σ) res.1 (wM cy ad res.2) := by
  refine mt_I (by decide) rfl (Nat.le_of_ble_eq_true rfl) ?_
  intro p e s m args below meth c A Q C h0 hr
  replace C : vv_X p s m args meth c D (tysW cy) A 3 cX6_weight RX6 wsX6_weight := C
  replace hF : ((bn_ (fX6_lies x1 0 7) fun r1 => (if r1 = 0 then some (0, σ) else (bn_ (fX6_lies x2 1 99) fun r2 => (if r2 = 0 then some (0, σ) else (gd_ x1 8 fun j3 => some (1, uM σ 9 j3 x2)))))) : Option (Int32 × St_)) = some res := hF
  refine vv_lv [0, 1, 2] (lv' := [(0, .ref (ad 29)), (1, .int x1), (2, .int x2)]) rfl ?_
  refine vv_iload_n C dX6_weight_0 1 rfl ?_
  refine vv_iconst (v := 0) C dX6_weight_1 (by decide) ?_
  refine vv_bipush (v := 7) C dX6_weight_2 (by decide) ?_
  refine vv_callSi (fun r1 => r1) (fun r1 => (wM cy ad σ)) C en_ok h0 [.int x1, .int 0, .int 7] [] 3 hF (fun r1 hr1 => kX6_lies l D (tysW cy) en_ok (wM cy ad σ) x1 0 7 r1  hr1) gX6_weight_X6_lies rfl rfl rfl (by decide +kernel) ⟨by decide, by decide⟩ rfl rfl (Nat.le_of_ble_eq_true rfl) dX6_weight_4 ⟨by decide, by decide⟩ (fun r1 hqr1 hF => ?_)
  refine vv_if_eq (tgt := 20) C dX6_weight_7 (by decide) hF (fun c5 hF => ?_) (fun c5 hF => ?_)
  · refine vv_iconst (v := 0) C dX6_weight_20 (by decide) ?_
    cases hF
    exact hr _ _ dX6_weight_21 nb_Z0
  · refine vv_iload_n C dX6_weight_10 2 rfl ?_
    refine vv_iconst (v := 1) C dX6_weight_11 (by decide) ?_
    refine vv_bipush (v := 99) C dX6_weight_12 (by decide) ?_
    refine vv_callSi (fun r2 => r2) (fun r2 => (wM cy ad σ)) C en_ok h0 [.int x2, .int 1, .int 99] [] 3 hF (fun r2 hr2 => kX6_lies l D (tysW cy) en_ok (wM cy ad σ) x2 1 99 r2  hr2) gX6_weight_X6_lies rfl rfl rfl (by decide +kernel) ⟨by decide, by decide⟩ rfl rfl (Nat.le_of_ble_eq_true rfl) dX6_weight_14 ⟨by decide, by decide⟩ (fun r2 hqr2 hF => ?_)
    refine vv_if_ne (tgt := 22) C dX6_weight_17 (by decide) hF (fun c4 hF => ?_) (fun c4 hF => ?_)
    · refine vv_aload_n C dX6_weight_22 0 rfl ?_
      refine vv_get (v := .ref (ad 9)) C (hi_X6_weight_X6) 25 (wM_g29 cy ad _) rfl 9 (by decide) (List.mem_of_getElem? (i := 1) rfl) rfl dX6_weight_23 ?_
      refine vv_iload_n C dX6_weight_26 1 rfl ?_
      refine vv_iload_n C dX6_weight_27 2 rfl ?_
      refine vv_iast (w' := fun j3 => (wM cy ad (uM σ 9 j3 x2))) C 5 0 (wM_g9 cy ad _) (tysW_0 cy) hF dX6_weight_28 (fun _ => wM_a9 _ _ _ _) (fun j3 hj3 hF => ?_)
      refine vv_iconst (v := 1) C dX6_weight_29 (by decide) ?_
      cases hF
      exact hr _ _ dX6_weight_30 nb_Z1
    · refine vv_iconst (v := 0) C dX6_weight_20 (by decide) ?_
      cases hF
      exact hr _ _ dX6_weight_21 nb_Z0
/-! X6_isBarred -/
abbrev rmX6_isBarred : Room := { frames := 0, cells := 0, slots := 0, locals := 0 }
theorem hi_X6_isBarred_X6 : ∀ w ∈ wsX60, w ∈ wsX6_isBarred := fun w h => List.mem_cons_of_mem _ (List.mem_append_right _ h)
def fX6_isBarred_57 (σ : St_)  : Option Int32 := some 1
def fX6_isBarred (x1 : Int32) (x2 : Int32) (σ : St_) : Option Int32 := (gd_ x1 10 fun j1 => (gd_ x2 10 fun j2 => (if (sM σ 7 j1) = (sM σ 7 j2) then fX6_isBarred_57 σ   else (gd_ ((10 * x1) + x2) 100 fun j3 => (if (sM σ 16 j3) = 0 then (gd_ ((10 * x2) + x1) 100 fun j4 => (if (sM σ 16 j4) = 0 then (gd_ ((10 * x1) + x2) 100 fun j5 => (if (sM σ 18 j5) = 0 then some 0 else fX6_isBarred_57 σ  )) else fX6_isBarred_57 σ  )) else fX6_isBarred_57 σ  )))))
set_option maxHeartbeats 4000000 in
set_option maxRecDepth 20000 in
theorem vX6_isBarred_57 {p : Program} {l : Launch} {e : Env} {s : State} {m : MethodId} {args : Array Value} {below : List Frame} {meth : Method} {c : Code} {D : va_G} {A : Nat → Prop} {Q : State → Prop} {cy : Nat → ClassId} {ad : Nat → Nat} {σ : St_} {res : Int32} (C : vv_X p s m args meth c D (tysW cy) A 3 cX6_isBarred RX6 wsX6_isBarred) (h0 : en_T A s) (hr : rt_I p l e rmX6_isBarred s m args below meth c D A 3 Q cX6_isBarred .boolean (wM cy ad σ) res) : fX6_isBarred_57 σ  = some res → vv_ p l e rmX6_isBarred s m args below meth c D A 3 Q 0 0 (wM cy ad σ) [] 57 [] := by
  intro  hF
  replace hF : (some 1 : Option Int32) = some res := hF
  refine vv_iconst (v := 1) C dX6_isBarred_57 (by decide) ?_
  refine vv_goto (tgt := 62) C dX6_isBarred_58 (by decide) ?_
  cases hF
  exact hr _ _ dX6_isBarred_62 nb_Z1
set_option maxHeartbeats 4000000 in
set_option maxRecDepth 20000 in
theorem kX6_isBarred (l : Launch) (D : va_G) (cy : Nat → ClassId) (ad : Nat → Nat) (x1 : Int32) (x2 : Int32) (σ : St_) (res : Int32)  (hF : fX6_isBarred x1 x2 σ = some res) : ct_I l D (tysW cy) en_T yX6_isBarred wsX6_isBarred rmX6_isBarred [.ref (ad 29), .int x1, .int x2] (wM cy ad σ) res (wM cy ad σ) := by
  refine mt_I (by decide) rfl (Nat.le_of_ble_eq_true rfl) ?_
  intro p e s m args below meth c A Q C h0 hr
  replace C : vv_X p s m args meth c D (tysW cy) A 3 cX6_isBarred RX6 wsX6_isBarred := C
  replace hF : ((gd_ x1 10 fun j1 => (gd_ x2 10 fun j2 => (if (sM σ 7 j1) = (sM σ 7 j2) then fX6_isBarred_57 σ   else (gd_ ((10 * x1) + x2) 100 fun j3 => (if (sM σ 16 j3) = 0 then (gd_ ((10 * x2) + x1) 100 fun j4 => (if (sM σ 16 j4) = 0 then (gd_ ((10 * x1) + x2) 100 fun j5 => (if (sM σ 18 j5) = 0 then some 0 else fX6_isBarred_57 σ  )) else fX6_isBarred_57 σ  )) else fX6_isBarred_57 σ  ))))) : Option Int32) = some res := hF
  refine vv_lv [0, 1, 2] (lv' := [(0, .ref (ad 29)), (1, .int x1), (2, .int x2)]) rfl ?_
  refine vv_aload_n C dX6_isBarred_0 0 rfl ?_
  refine vv_get (v := .ref (ad 7)) C (hi_X6_isBarred_X6) 25 (wM_g29 cy ad _) rfl 7 (by decide) (List.mem_of_getElem? (i := 1) rfl) rfl dX6_isBarred_1 ?_
  refine vv_iload_n C dX6_isBarred_4 1 rfl ?_
  refine vv_iald C 3 0 (wM_g7 cy ad _) (tysW_0 cy) hF dX6_isBarred_5 (fun j1 hj1 hF => ?_)
  refine vv_aload_n C dX6_isBarred_6 0 rfl ?_
  refine vv_get (v := .ref (ad 7)) C (hi_X6_isBarred_X6) 25 (wM_g29 cy ad _) rfl 7 (by decide) (List.mem_of_getElem? (i := 1) rfl) rfl dX6_isBarred_7 ?_
  refine vv_iload_n C dX6_isBarred_10 2 rfl ?_
  refine vv_iald C 3 0 (wM_g7 cy ad _) (tysW_0 cy) hF dX6_isBarred_11 (fun j2 hj2 hF => ?_)
  refine vv_icmp_eq (tgt := 57) C dX6_isBarred_12 (by decide) hF (fun c9 hF => ?_) (fun c9 hF => ?_)
  · refine vv_lv [] rfl ?_
    exact vX6_isBarred_57 C h0 hr    hF
  · refine vv_aload_n C dX6_isBarred_15 0 rfl ?_
    refine vv_get (v := .ref (ad 16)) C (hi_X6_isBarred_X6) 25 (wM_g29 cy ad _) rfl 16 (by decide) (List.mem_of_getElem? (i := 2) rfl) rfl dX6_isBarred_16 ?_
    refine vv_bipush (v := 10) C dX6_isBarred_19 (by decide) ?_
    refine vv_iload_n C dX6_isBarred_21 1 rfl ?_
    refine vv_imul C dX6_isBarred_22 ?_
    refine vv_iload_n C dX6_isBarred_23 2 rfl ?_
    refine vv_iadd C dX6_isBarred_24 ?_
    refine vv_zald C 12 1 (wM_g16 cy ad _) (tysW_1 cy) hF dX6_isBarred_25 (fun j3 hj3 hF => ?_)
    refine vv_if_ne (tgt := 57) C dX6_isBarred_26 (by decide) hF (fun c8 hF => ?_) (fun c8 hF => ?_)
    · refine vv_lv [] rfl ?_
      exact vX6_isBarred_57 C h0 hr    hF
    · refine vv_aload_n C dX6_isBarred_29 0 rfl ?_
      refine vv_get (v := .ref (ad 16)) C (hi_X6_isBarred_X6) 25 (wM_g29 cy ad _) rfl 16 (by decide) (List.mem_of_getElem? (i := 2) rfl) rfl dX6_isBarred_30 ?_
      refine vv_bipush (v := 10) C dX6_isBarred_33 (by decide) ?_
      refine vv_iload_n C dX6_isBarred_35 2 rfl ?_
      refine vv_imul C dX6_isBarred_36 ?_
      refine vv_iload_n C dX6_isBarred_37 1 rfl ?_
      refine vv_iadd C dX6_isBarred_38 ?_
      refine vv_zald C 12 1 (wM_g16 cy ad _) (tysW_1 cy) hF dX6_isBarred_39 (fun j4 hj4 hF => ?_)
      refine vv_if_ne (tgt := 57) C dX6_isBarred_40 (by decide) hF (fun c7 hF => ?_) (fun c7 hF => ?_)
      · refine vv_lv [] rfl ?_
        exact vX6_isBarred_57 C h0 hr    hF
      · refine vv_aload_n C dX6_isBarred_43 0 rfl ?_
        refine vv_get (v := .ref (ad 18)) C (hi_X6_isBarred_X6) 25 (wM_g29 cy ad _) rfl 18 (by decide) (List.mem_of_getElem? (i := 3) rfl) rfl dX6_isBarred_44 ?_
        refine vv_bipush (v := 10) C dX6_isBarred_47 (by decide) ?_
        refine vv_iload_n C dX6_isBarred_49 1 rfl ?_
        refine vv_imul C dX6_isBarred_50 ?_
        refine vv_iload_n C dX6_isBarred_51 2 rfl ?_
        refine vv_iadd C dX6_isBarred_52 ?_
        refine vv_zald C 14 1 (wM_g18 cy ad _) (tysW_1 cy) hF dX6_isBarred_53 (fun j5 hj5 hF => ?_)
        refine vv_if_eq (tgt := 61) C dX6_isBarred_54 (by decide) hF (fun c6 hF => ?_) (fun c6 hF => ?_)
        · refine vv_iconst (v := 0) C dX6_isBarred_61 (by decide) ?_
          cases hF
          exact hr _ _ dX6_isBarred_62 nb_Z0
        · refine vv_lv [] rfl ?_
          exact vX6_isBarred_57 C h0 hr    hF
/-! X6_barred -/
abbrev rmX6_barred : Room := { frames := 2, cells := 0, slots := 0, locals := 43 }
def fX6_barred_16 (σ : St_)  : Option Int32 := some (-1)
def fX6_barred (x1 : Int32) (x2 : Int32) (σ : St_) : Option Int32 := (bn_ (fX6_isFarm x1 σ) fun r1 => (if r1 = 0 then fX6_barred_16 σ   else (bn_ (fX6_isFarm x2 σ) fun r2 => (if r2 = 0 then fX6_barred_16 σ   else (bn_ (fX6_isBarred x1 x2 σ) fun r3 => (if r3 = 0 then some 0 else some 1))))))
set_option maxHeartbeats 4000000 in
set_option maxRecDepth 20000 in
theorem vX6_barred_16 {p : Program} {l : Launch} {e : Env} {s : State} {m : MethodId} {args : Array Value} {below : List Frame} {meth : Method} {c : Code} {D : va_G} {A : Nat → Prop} {Q : State → Prop} {cy : Nat → ClassId} {ad : Nat → Nat} {σ : St_} {res : Int32} (C : vv_X p s m args meth c D (tysW cy) A 3 cX6_barred RX6 wsX6_barred) (h0 : en_T A s) (hr : rt_I p l e rmX6_barred s m args below meth c D A 3 Q cX6_barred .int (wM cy ad σ) res) : fX6_barred_16 σ  = some res → vv_ p l e rmX6_barred s m args below meth c D A 3 Q 0 0 (wM cy ad σ) [] 16 [] := by
  intro  hF
  replace hF : (some (-1) : Option Int32) = some res := hF
  refine vv_iconst (v := (-1)) C dX6_barred_16 (by decide) ?_
  refine vv_goto (tgt := 34) C dX6_barred_17 (by decide) ?_
  cases hF
  exact hr _ _ dX6_barred_34 rfl
set_option maxHeartbeats 4000000 in
set_option maxRecDepth 20000 in
theorem kX6_barred (l : Launch) (D : va_G) (cy : Nat → ClassId) (ad : Nat → Nat) (x1 : Int32) (x2 : Int32) (σ : St_) (res : Int32)  (hF : fX6_barred x1 x2 σ = some res) : ct_I l D (tysW cy) en_T yX6_barred wsX6_barred rmX6_barred [.ref (ad 29), .int x1, .int x2] (wM cy ad σ) res (wM cy ad σ) := by
  refine mt_I (by decide) rfl (Nat.le_of_ble_eq_true rfl) ?_
  intro p e s m args below meth c A Q C h0 hr
  replace C : vv_X p s m args meth c D (tysW cy) A 3 cX6_barred RX6 wsX6_barred := C
  replace hF : ((bn_ (fX6_isFarm x1 σ) fun r1 => (if r1 = 0 then fX6_barred_16 σ   else (bn_ (fX6_isFarm x2 σ) fun r2 => (if r2 = 0 then fX6_barred_16 σ   else (bn_ (fX6_isBarred x1 x2 σ) fun r3 => (if r3 = 0 then some 0 else some 1)))))) : Option Int32) = some res := hF
  refine vv_lv [0, 1, 2] (lv' := [(0, .ref (ad 29)), (1, .int x1), (2, .int x2)]) rfl ?_
  refine vv_aload_n C dX6_barred_0 0 rfl ?_
  refine vv_iload_n C dX6_barred_1 1 rfl ?_
  refine vv_callVi (fun r1 => r1) (fun r1 => (wM cy ad σ)) C en_ok h0 [.int x1] [] 1 hF (fun r1 hr1 => kX6_isFarm l D cy ad x1 σ r1  hr1) gX6_barred_X6_isFarm rfl rfl rfl (by decide +kernel) ⟨by decide, by decide⟩ 25 (wM_g29 cy ad _) rfl rfl rfl (Nat.le_of_ble_eq_true rfl) dX6_barred_2 ⟨by decide, by decide⟩ (fun r1 hqr1 hF => ?_)
  refine vv_if_eq (tgt := 16) C dX6_barred_5 (by decide) hF (fun c6 hF => ?_) (fun c6 hF => ?_)
  · refine vv_lv [] rfl ?_
    exact vX6_barred_16 C h0 hr    hF
  · refine vv_aload_n C dX6_barred_8 0 rfl ?_
    refine vv_iload_n C dX6_barred_9 2 rfl ?_
    refine vv_callVi (fun r2 => r2) (fun r2 => (wM cy ad σ)) C en_ok h0 [.int x2] [] 1 hF (fun r2 hr2 => kX6_isFarm l D cy ad x2 σ r2  hr2) gX6_barred_X6_isFarm rfl rfl rfl (by decide +kernel) ⟨by decide, by decide⟩ 25 (wM_g29 cy ad _) rfl rfl rfl (Nat.le_of_ble_eq_true rfl) dX6_barred_10 ⟨by decide, by decide⟩ (fun r2 hqr2 hF => ?_)
    refine vv_if_ne (tgt := 20) C dX6_barred_13 (by decide) hF (fun c5 hF => ?_) (fun c5 hF => ?_)
    · refine vv_aload_n C dX6_barred_20 0 rfl ?_
      refine vv_iload_n C dX6_barred_21 1 rfl ?_
      refine vv_iload_n C dX6_barred_22 2 rfl ?_
      refine vv_callVi (fun r3 => r3) (fun r3 => (wM cy ad σ)) C en_ok h0 [.int x1, .int x2] [] 2 hF (fun r3 hr3 => kX6_isBarred l D cy ad x1 x2 σ r3  hr3) gX6_barred_X6_isBarred rfl rfl rfl (by decide +kernel) ⟨by decide, by decide⟩ 25 (wM_g29 cy ad _) rfl rfl rfl (Nat.le_of_ble_eq_true rfl) dX6_barred_23 ⟨by decide, by decide⟩ (fun r3 hqr3 hF => ?_)
      refine vv_if_eq (tgt := 33) C dX6_barred_26 (by decide) hF (fun c4 hF => ?_) (fun c4 hF => ?_)
      · refine vv_iconst (v := 0) C dX6_barred_33 (by decide) ?_
        cases hF
        exact hr _ _ dX6_barred_34 rfl
      · refine vv_iconst (v := 1) C dX6_barred_29 (by decide) ?_
        refine vv_goto (tgt := 34) C dX6_barred_30 (by decide) ?_
        cases hF
        exact hr _ _ dX6_barred_34 rfl
    · refine vv_lv [] rfl ?_
      exact vX6_barred_16 C h0 hr    hF
