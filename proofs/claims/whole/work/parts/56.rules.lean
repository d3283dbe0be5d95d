/-! X2_readDigits -/
abbrev rmX2_readDigits : Room := { frames := 3, cells := 0, slots := 0, locals := 63 }
theorem hi_X2_readDigits_X2 : ∀ w ∈ wsX20, w ∈ wsX2_readDigits := fun w h => List.mem_cons_of_mem _ (List.mem_append_left _ (List.mem_append_right _ h))
def fX2_readDigits_4 : Nat → Int32 → Int32 → St_ → Option (Int32 × St_)
  | 0, _, _, _ => none
  | n + 1, x2, x3, σ => (if 4 ≤ x3 then some (x2, σ) else (bn_ (fX3_hasDigitAt (sS σ 1) σ) fun r1 => (if r1 = 0 then some (x2, σ) else (bn_ (fX3_at (sS σ 1) σ) fun r2 => fX2_readDigits_4  n (((x2 * 10) + r2) - 48) (x3 + 1) (uS σ 1 ((sS σ 1) + 1))))))
def fX2_readDigits (σ : St_) : Option (Int32 × St_) := fX2_readDigits_4  FU_ 0 0 σ
set_option maxHeartbeats 4000000 in
set_option maxRecDepth 20000 in
theorem vX2_readDigits_4 {p : Program} {l : Launch} {e : Env} {s : State} {m : MethodId} {args : Array Value} {below : List Frame} {meth : Method} {c : Code} {D : va_G} {A : Nat → Prop} {Q : State → Prop} {cy : Nat → ClassId} {ad fad : Nat → Nat} {res : Int32 × St_} (C : vv_X p s m args meth c D (tysW cy) A 4 cX2_readDigits RX2 wsX2_readDigits) (h0 : eX A s) (hr : rt_I p l e rmX2_readDigits s m args below meth c D A 4 Q cX2_readDigits .int (wX cy ad fad res.2) res.1) : ∀ (n : Nat) (x2 : Int32) (x3 : Int32) (σ : St_), fX2_readDigits_4  n x2 x3 σ = some res → vv_ p l e rmX2_readDigits s m args below meth c D A 4 Q 0 0 (wX cy ad fad σ) [(0, .ref (ad 25)), (1, .ref (ad 24)), (2, .int x2), (3, .int x3)] 4 [] := by
  intro n
  induction n with
  | zero =>
    intro x2 x3 σ hF
    cases (show none = some res from hF)
  | succ n ih =>
    intro x2 x3 σ hF
    replace hF : ((if 4 ≤ x3 then some (x2, σ) else (bn_ (fX3_hasDigitAt (sS σ 1) σ) fun r1 => (if r1 = 0 then some (x2, σ) else (bn_ (fX3_at (sS σ 1) σ) fun r2 => fX2_readDigits_4  n (((x2 * 10) + r2) - 48) (x3 + 1) (uS σ 1 ((sS σ 1) + 1)))))) : Option (Int32 × St_)) = some res := hF
    refine vv_iload_n C dX2_readDigits_4 3 rfl ?_
    refine vv_iconst (v := 4) C dX2_readDigits_5 (by decide) ?_
    refine vv_icmp_ge (tgt := 53) C dX2_readDigits_6 (by decide) hF (fun c4 hF => ?_) (fun c4 hF => ?_)
    · refine vv_iload_n C dX2_readDigits_53 2 rfl ?_
      cases hF
      exact hr _ _ dX2_readDigits_54 rfl
    · refine vv_aload_n C dX2_readDigits_9 1 rfl ?_
      refine vv_aload_n C dX2_readDigits_10 0 rfl ?_
      refine vv_get (v := .int (sS σ 1)) C (hi_X2_readDigits_X2) 25 (wX_g25 cy ad fad _) rfl 2 (by decide) (List.mem_of_getElem? (i := 1) rfl) rfl dX2_readDigits_11 ?_
      refine vv_callVi (fun r1 => r1) (fun r1 => (wX cy ad fad σ)) C eX_ok h0 [.int (sS σ 1)] [] 1 hF (fun r1 hr1 => kX3_hasDigitAt l D cy ad fad (sS σ 1) σ r1  hr1) gX2_readDigits_X3_hasDigitAt rfl rfl rfl (by decide +kernel) ⟨by decide, by decide⟩ 24 (wX_g24 cy ad fad _) rfl rfl rfl (Nat.le_of_ble_eq_true rfl) dX2_readDigits_14 ⟨by decide, by decide⟩ (fun r1 hqr1 hF => ?_)
      refine vv_if_eq (tgt := 53) C dX2_readDigits_17 (by decide) hF (fun c3 hF => ?_) (fun c3 hF => ?_)
      · refine vv_iload_n C dX2_readDigits_53 2 rfl ?_
        cases hF
        exact hr _ _ dX2_readDigits_54 rfl
      · refine vv_iload_n C dX2_readDigits_20 2 rfl ?_
        refine vv_bipush (v := 10) C dX2_readDigits_21 (by decide) ?_
        refine vv_imul C dX2_readDigits_23 ?_
        refine vv_aload_n C dX2_readDigits_24 1 rfl ?_
        refine vv_aload_n C dX2_readDigits_25 0 rfl ?_
        refine vv_get (v := .int (sS σ 1)) C (hi_X2_readDigits_X2) 25 (wX_g25 cy ad fad _) rfl 2 (by decide) (List.mem_of_getElem? (i := 1) rfl) rfl dX2_readDigits_26 ?_
        refine vv_callVi (fun r2 => r2) (fun r2 => (wX cy ad fad σ)) C eX_ok h0 [.int (sS σ 1)] [.int (x2 * 10)] 1 hF (fun r2 hr2 => kX3_at l D cy ad fad (sS σ 1) σ r2  hr2) gX2_readDigits_X3_at rfl rfl rfl (by decide +kernel) ⟨by decide, by decide⟩ 24 (wX_g24 cy ad fad _) rfl rfl rfl (Nat.le_of_ble_eq_true rfl) dX2_readDigits_29 ⟨by decide, by decide⟩ (fun r2 hqr2 hF => ?_)
        refine vv_iadd C dX2_readDigits_32 ?_
        refine vv_bipush (v := 48) C dX2_readDigits_33 (by decide) ?_
        refine vv_isub C dX2_readDigits_35 ?_
        refine vv_istore_n (lv' := [(2, .int (((x2 * 10) + r2) - 48)), (0, .ref (ad 25)), (1, .ref (ad 24)), (3, .int x3)]) C dX2_readDigits_36 (by decide) rfl ?_
        refine vv_aload_n C dX2_readDigits_37 1 rfl ?_
        refine vv_dup C dX2_readDigits_38 rfl ?_
        refine vv_get (v := .int (sS σ 1)) C (hi_X2_readDigits_X2) 25 (wX_g25 cy ad fad _) rfl 2 (by decide) (List.mem_of_getElem? (i := 1) rfl) rfl dX2_readDigits_39 ?_
        refine vv_iconst (v := 1) C dX2_readDigits_42 (by decide) ?_
        refine vv_iadd C dX2_readDigits_43 ?_
        refine vv_put (w' := (wX cy ad fad (uS σ 1 ((sS σ 1) + 1)))) C (hi_X2_readDigits_X2) tyX2 tyX2_ok nmX2 25 (wX_g25 cy ad fad _) rfl 2 (by decide) (List.mem_of_getElem? (i := 1) rfl) rfl rfl rfl (Nat.le_of_ble_eq_true rfl) dX2_readDigits_44 (wX_s1 _ _ _ _ _) ?_
        refine vv_iinc (q := 3) (v := x3 + 1) (lv' := [(3, .int (x3 + 1)), (2, .int (((x2 * 10) + r2) - 48)), (0, .ref (ad 25)), (1, .ref (ad 24))]) C dX2_readDigits_47 rfl rfl (by decide) rfl ?_
        refine vv_goto (tgt := 4) C dX2_readDigits_50 (by decide) ?_
        refine vv_lv [2, 3, 1, 0] rfl ?_
        exact ih (((x2 * 10) + r2) - 48) (x3 + 1) (uS σ 1 ((sS σ 1) + 1))  hF
set_option maxHeartbeats 4000000 in
set_option maxRecDepth 20000 in
theorem kX2_readDigits (l : Launch) (D : va_G) (cy : Nat → ClassId) (ad fad : Nat → Nat) (σ : St_) (res : Int32 × St_)  (hF : fX2_readDigits σ = some res) : ct_I l D (tysW cy) eX yX2_readDigits wsX2_readDigits rmX2_readDigits [.ref (ad 25), .ref (ad 24)] (wX cy ad fad σ) res.1 (wX cy ad fad res.2) := by
  refine mt_I (by decide) rfl (Nat.le_of_ble_eq_true rfl) ?_
  intro p e s m args below meth c A Q C h0 hr
  replace C : vv_X p s m args meth c D (tysW cy) A 4 cX2_readDigits RX2 wsX2_readDigits := C
  replace hF : (fX2_readDigits_4  FU_ 0 0 σ : Option (Int32 × St_)) = some res := hF
  refine vv_lv [0, 1] (lv' := [(0, .ref (ad 25)), (1, .ref (ad 24))]) rfl ?_
  refine vv_iconst (v := 0) C dX2_readDigits_0 (by decide) ?_
  refine vv_istore_n (lv' := [(2, .int 0), (0, .ref (ad 25)), (1, .ref (ad 24))]) C dX2_readDigits_1 (by decide) rfl ?_
  refine vv_iconst (v := 0) C dX2_readDigits_2 (by decide) ?_
  refine vv_istore_n (lv' := [(3, .int 0), (2, .int 0), (0, .ref (ad 25)), (1, .ref (ad 24))]) C dX2_readDigits_3 (by decide) rfl ?_
  refine vv_lv [2, 3, 1, 0] rfl ?_
  exact vX2_readDigits_4 C h0 hr  FU_ 0 0 σ  hF
/-! X2_readClause -/
abbrev rmX2_readClause : Room := { frames := 5, cells := 0, slots := 0, locals := 111 }
theorem hi_X2_readClause_X2 : ∀ w ∈ wsX20, w ∈ wsX2_readClause := fun w h => List.mem_cons_of_mem _ (List.mem_append_left _ (List.mem_append_right _ h))
def fX2_readClause_106 (x3 : Int32) (σ : St_) : Option (Int32 × St_) := (bn_ (fX2_faultAt 4 x3) fun r18 => some (r18, σ))
def fX2_readClause (σ : St_) : Option (Int32 × St_) := (bn_ (fX3_at (sS σ 1) σ) fun r1 => (bn_ (fX2_kindOf r1) fun r2 => (bn_ (fX5_isBelow r2 6) fun r3 => (if r3 = 0 then (bn_ (fX2_faultAt 1 (sS σ 1)) fun r16 => some (r16, σ)) else (bn_ (fX3_hasDigitAt (sS (uS σ 1 ((sS σ 1) + 1)) 1) (uS σ 1 ((sS σ 1) + 1))) fun r4 => (if r4 = 0 then (bn_ (fX2_faultAt 2 (sS (uS σ 1 ((sS σ 1) + 1)) 1)) fun r14 => some (r14, uS σ 1 ((sS σ 1) + 1))) else (bn_ (fX2_readDigits (uS σ 1 ((sS σ 1) + 1))) fun r5 => (bn_ (fX3_hasDigitAt (sS r5.2 1) r5.2) fun r6 => (if r6 = 0 then (gd_ r2 6 fun j7 => (if r5.1 < (lsL.getD j7 0) then fX2_readClause_106  (sS (uS σ 1 ((sS σ 1) + 1)) 1) r5.2 else (gd_ r2 6 fun j8 => (if r5.1 ≤ (lsM.getD j8 0) then (gd_ r2 6 fun j9 => some (0, uM r5.2 2 j9 r5.1)) else fX2_readClause_106  (sS (uS σ 1 ((sS σ 1) + 1)) 1) r5.2)))) else (bn_ (fX2_faultAt 3 (sS r5.2 1)) fun r12 => some (r12, r5.2)))))))))))
set_option maxHeartbeats 4000000 in
set_option maxRecDepth 20000 in
theorem vX2_readClause_106 {p : Program} {l : Launch} {e : Env} {s : State} {m : MethodId} {args : Array Value} {below : List Frame} {meth : Method} {c : Code} {D : va_G} {A : Nat → Prop} {Q : State → Prop} {cy : Nat → ClassId} {ad fad : Nat → Nat} {res : Int32 × St_} (C : vv_X p s m args meth c D (tysW cy) A 5 cX2_readClause RX2 wsX2_readClause) (h0 : eX A s) (hr : rt_I p l e rmX2_readClause s m args below meth c D A 5 Q cX2_readClause .int (wX cy ad fad res.2) res.1) : ∀ (x3 : Int32) (σ : St_), fX2_readClause_106  x3 σ = some res → vv_ p l e rmX2_readClause s m args below meth c D A 5 Q 0 0 (wX cy ad fad σ) [(3, .int x3)] 106 [] := by
  intro x3 σ hF
  replace hF : ((bn_ (fX2_faultAt 4 x3) fun r18 => some (r18, σ)) : Option (Int32 × St_)) = some res := hF
  refine vv_iconst (v := 4) C dX2_readClause_106 (by decide) ?_
  refine vv_iload_n C dX2_readClause_107 0 rfl ?_
  refine vv_callSi (fun r18 => r18) (fun r18 => (wX cy ad fad σ)) C eX_ok h0 [.int 4, .int x3] [] 2 hF (fun r18 hr18 => kX2_faultAt l D (tysW cy) eX_ok (wX cy ad fad σ) 4 x3 r18  hr18) gX2_readClause_X2_faultAt rfl rfl rfl (by decide +kernel) ⟨by decide, by decide⟩ rfl rfl (Nat.le_of_ble_eq_true rfl) dX2_readClause_108 ⟨by decide, by decide⟩ (fun r18 hqr18 hF => ?_)
  cases hF
  exact hr _ _ dX2_readClause_111 rfl
set_option maxHeartbeats 4000000 in
set_option maxRecDepth 20000 in
theorem kX2_readClause (l : Launch) (D : va_G) (cy : Nat → ClassId) (ad fad : Nat → Nat) (σ : St_) (res : Int32 × St_)  (hF : fX2_readClause σ = some res) : ct_I l D (tysW cy) eX yX2_readClause wsX2_readClause rmX2_readClause [.ref (ad 25), .ref (ad 24)] (wX cy ad fad σ) res.1 (wX cy ad fad res.2) := by
  refine mt_I (by decide) rfl (Nat.le_of_ble_eq_true rfl) ?_
  intro p e s m args below meth c A Q C h0 hr
  replace C : vv_X p s m args meth c D (tysW cy) A 5 cX2_readClause RX2 wsX2_readClause := C
  replace hF : ((bn_ (fX3_at (sS σ 1) σ) fun r1 => (bn_ (fX2_kindOf r1) fun r2 => (bn_ (fX5_isBelow r2 6) fun r3 => (if r3 = 0 then (bn_ (fX2_faultAt 1 (sS σ 1)) fun r16 => some (r16, σ)) else (bn_ (fX3_hasDigitAt (sS (uS σ 1 ((sS σ 1) + 1)) 1) (uS σ 1 ((sS σ 1) + 1))) fun r4 => (if r4 = 0 then (bn_ (fX2_faultAt 2 (sS (uS σ 1 ((sS σ 1) + 1)) 1)) fun r14 => some (r14, uS σ 1 ((sS σ 1) + 1))) else (bn_ (fX2_readDigits (uS σ 1 ((sS σ 1) + 1))) fun r5 => (bn_ (fX3_hasDigitAt (sS r5.2 1) r5.2) fun r6 => (if r6 = 0 then (gd_ r2 6 fun j7 => (if r5.1 < (lsL.getD j7 0) then fX2_readClause_106  (sS (uS σ 1 ((sS σ 1) + 1)) 1) r5.2 else (gd_ r2 6 fun j8 => (if r5.1 ≤ (lsM.getD j8 0) then (gd_ r2 6 fun j9 => some (0, uM r5.2 2 j9 r5.1)) else fX2_readClause_106  (sS (uS σ 1 ((sS σ 1) + 1)) 1) r5.2)))) else (bn_ (fX2_faultAt 3 (sS r5.2 1)) fun r12 => some (r12, r5.2))))))))))) : Option (Int32 × St_)) = some res := hF
  refine vv_lv [0, 1] (lv' := [(0, .ref (ad 25)), (1, .ref (ad 24))]) rfl ?_
  obtain ⟨hN0, tA, tL, tM, aK, aV, ⟨zA, yA⟩, ⟨zL, yL⟩, ⟨zM, yM⟩, zC, yR, yS⟩ := id h0
  refine vv_aload_n C dX2_readClause_0 1 rfl ?_
  refine vv_aload_n C dX2_readClause_1 0 rfl ?_
  refine vv_get (v := .int (sS σ 1)) C (hi_X2_readClause_X2) 25 (wX_g25 cy ad fad _) rfl 2 (by decide) (List.mem_of_getElem? (i := 1) rfl) rfl dX2_readClause_2 ?_
  refine vv_callVi (fun r1 => r1) (fun r1 => (wX cy ad fad σ)) C eX_ok h0 [.int (sS σ 1)] [] 1 hF (fun r1 hr1 => kX3_at l D cy ad fad (sS σ 1) σ r1  hr1) gX2_readClause_X3_at rfl rfl rfl (by decide +kernel) ⟨by decide, by decide⟩ 24 (wX_g24 cy ad fad _) rfl rfl rfl (Nat.le_of_ble_eq_true rfl) dX2_readClause_5 ⟨by decide, by decide⟩ (fun r1 hqr1 hF => ?_)
  refine vv_callSi (fun r2 => r2) (fun r2 => (wX cy ad fad σ)) C eX_ok h0 [.int r1] [] 1 hF (fun r2 hr2 => kX2_kindOf l D (tysW cy) (wX cy ad fad σ) r1 r2  hr2) gX2_readClause_X2_kindOf rfl rfl rfl (by decide +kernel) ⟨by decide, by decide⟩ rfl rfl (Nat.le_of_ble_eq_true rfl) dX2_readClause_8 ⟨by decide, by decide⟩ (fun r2 hqr2 hF => ?_)
  refine vv_istore_n (lv' := [(2, .int r2), (0, .ref (ad 25)), (1, .ref (ad 24))]) C dX2_readClause_11 (by decide) rfl ?_
  refine vv_iload_n C dX2_readClause_12 0 rfl ?_
  refine vv_bipush (v := 6) C dX2_readClause_13 (by decide) ?_
  refine vv_callNi (fun r3 => r3) (fun r3 => (wX cy ad fad σ)) C eX_ok h0 [.int r2, .int 6] [] 2 hF (fun r3 hr3 => kX5_isBelow l D (tysW cy) eX_ok (wX cy ad fad σ) r2 6 r3  hr3) gX2_readClause_X5_isBelow_n31 (eX_nX2_31 h0) (List.mem_of_getElem? (i := 13) rfl) (List.mem_of_getElem? (i := 12) rfl) rfl rfl rfl (by decide +kernel) ⟨by decide, by decide⟩ rfl rfl (Nat.le_of_ble_eq_true rfl) dX2_readClause_15 ⟨by decide, by decide⟩ (fun r3 hqr3 hF => ?_)
  refine vv_if_ne (tgt := 30) C dX2_readClause_18 (by decide) hF (fun c17 hF => ?_) (fun c17 hF => ?_)
  · refine vv_aload_n C dX2_readClause_30 1 rfl ?_
    refine vv_dup C dX2_readClause_31 rfl ?_
    refine vv_get (v := .int (sS σ 1)) C (hi_X2_readClause_X2) 25 (wX_g25 cy ad fad _) rfl 2 (by decide) (List.mem_of_getElem? (i := 1) rfl) rfl dX2_readClause_32 ?_
    refine vv_iconst (v := 1) C dX2_readClause_35 (by decide) ?_
    refine vv_iadd C dX2_readClause_36 ?_
    refine vv_put (w' := (wX cy ad fad (uS σ 1 ((sS σ 1) + 1)))) C (hi_X2_readClause_X2) tyX2 tyX2_ok nmX2 25 (wX_g25 cy ad fad _) rfl 2 (by decide) (List.mem_of_getElem? (i := 1) rfl) rfl rfl rfl (Nat.le_of_ble_eq_true rfl) dX2_readClause_37 (wX_s1 _ _ _ _ _) ?_
    refine vv_aload_n C dX2_readClause_40 1 rfl ?_
    refine vv_get (v := .int (sS (uS σ 1 ((sS σ 1) + 1)) 1)) C (hi_X2_readClause_X2) 25 (wX_g25 cy ad fad _) rfl 2 (by decide) (List.mem_of_getElem? (i := 1) rfl) rfl dX2_readClause_41 ?_
    refine vv_istore_n (lv' := [(3, .int (sS (uS σ 1 ((sS σ 1) + 1)) 1)), (2, .int r2), (0, .ref (ad 25)), (1, .ref (ad 24))]) C dX2_readClause_44 (by decide) rfl ?_
    refine vv_aload_n C dX2_readClause_45 3 rfl ?_
    refine vv_iload_n C dX2_readClause_46 0 rfl ?_
    refine vv_callVi (fun r4 => r4) (fun r4 => (wX cy ad fad (uS σ 1 ((sS σ 1) + 1)))) C eX_ok h0 [.int (sS (uS σ 1 ((sS σ 1) + 1)) 1)] [] 1 hF (fun r4 hr4 => kX3_hasDigitAt l D cy ad fad (sS (uS σ 1 ((sS σ 1) + 1)) 1) (uS σ 1 ((sS σ 1) + 1)) r4  hr4) gX2_readClause_X3_hasDigitAt rfl rfl rfl (by decide +kernel) ⟨by decide, by decide⟩ 24 (wX_g24 cy ad fad _) rfl rfl rfl (Nat.le_of_ble_eq_true rfl) dX2_readClause_47 ⟨by decide, by decide⟩ (fun r4 hqr4 hF => ?_)
    refine vv_if_ne (tgt := 59) C dX2_readClause_50 (by decide) hF (fun c15 hF => ?_) (fun c15 hF => ?_)
    · refine vv_aload_n C dX2_readClause_59 2 rfl ?_
      refine vv_aload_n C dX2_readClause_60 3 rfl ?_
      refine vv_callVi (fun r5 => r5.1) (fun r5 => (wX cy ad fad r5.2)) C eX_ok h0 [.ref (ad 24)] [] 1 hF (fun r5 hr5 => kX2_readDigits l D cy ad fad (uS σ 1 ((sS σ 1) + 1)) r5  hr5) gX2_readClause_X2_readDigits rfl rfl rfl (by decide +kernel) ⟨by decide, by decide⟩ 25 (wX_g25 cy ad fad _) rfl rfl rfl (Nat.le_of_ble_eq_true rfl) dX2_readClause_61 ⟨by decide, by decide⟩ (fun r5 hqr5 hF => ?_)
      refine vv_istore (lv' := [(4, .int r5.1), (3, .int (sS (uS σ 1 ((sS σ 1) + 1)) 1)), (2, .int r2), (0, .ref (ad 25)), (1, .ref (ad 24))]) C dX2_readClause_64 (by decide) rfl ?_
      refine vv_aload_n C dX2_readClause_66 4 rfl ?_
      refine vv_aload_n C dX2_readClause_67 3 rfl ?_
      refine vv_get (v := .int (sS r5.2 1)) C (hi_X2_readClause_X2) 25 (wX_g25 cy ad fad _) rfl 2 (by decide) (List.mem_of_getElem? (i := 1) rfl) rfl dX2_readClause_68 ?_
      refine vv_callVi (fun r6 => r6) (fun r6 => (wX cy ad fad r5.2)) C eX_ok h0 [.int (sS r5.2 1)] [] 1 hF (fun r6 hr6 => kX3_hasDigitAt l D cy ad fad (sS r5.2 1) r5.2 r6  hr6) gX2_readClause_X3_hasDigitAt rfl rfl rfl (by decide +kernel) ⟨by decide, by decide⟩ 24 (wX_g24 cy ad fad _) rfl rfl rfl (Nat.le_of_ble_eq_true rfl) dX2_readClause_71 ⟨by decide, by decide⟩ (fun r6 hqr6 hF => ?_)
      refine vv_if_eq (tgt := 86) C dX2_readClause_74 (by decide) hF (fun c13 hF => ?_) (fun c13 hF => ?_)
      · refine vv_iload C dX2_readClause_86 0 rfl ?_
        refine vv_gets C zL (List.mem_of_getElem? (i := 2) rfl) dX2_readClause_88 ?_
        refine vv_iload_n C dX2_readClause_91 2 rfl ?_
        refine vv_ti C yL hF dX2_readClause_92 (fun j7 hj7 hF => ?_)
        refine vv_icmp_lt (tgt := 106) C dX2_readClause_93 (by decide) hF (fun c11 hF => ?_) (fun c11 hF => ?_)
        · refine vv_lv [1] rfl ?_
          exact vX2_readClause_106 C h0 hr  (sS (uS σ 1 ((sS σ 1) + 1)) 1) r5.2  hF
        · refine vv_iload C dX2_readClause_96 0 rfl ?_
          refine vv_gets C zM (List.mem_of_getElem? (i := 3) rfl) dX2_readClause_98 ?_
          refine vv_iload_n C dX2_readClause_101 2 rfl ?_
          refine vv_ti C yM hF dX2_readClause_102 (fun j8 hj8 hF => ?_)
          refine vv_icmp_le (tgt := 112) C dX2_readClause_103 (by decide) hF (fun c10 hF => ?_) (fun c10 hF => ?_)
          · refine vv_aload_n C dX2_readClause_112 3 rfl ?_
            refine vv_get (v := .ref (ad 2)) C (hi_X2_readClause_X2) 25 (wX_g25 cy ad fad _) rfl 1 (by decide) (List.mem_of_getElem? (i := 4) rfl) rfl dX2_readClause_113 ?_
            refine vv_iload_n C dX2_readClause_116 2 rfl ?_
            refine vv_iload C dX2_readClause_117 0 rfl ?_
            refine vv_iast (w' := fun j9 => (wX cy ad fad (uM r5.2 2 j9 r5.1))) C 2 0 (wX_g2 cy ad fad _) (tysW_0 cy) hF dX2_readClause_119 (fun _ => wX_a2 _ _ _ _ _) (fun j9 hj9 hF => ?_)
            refine vv_iconst (v := 0) C dX2_readClause_120 (by decide) ?_
            cases hF
            exact hr _ _ dX2_readClause_121 rfl
          · refine vv_lv [1] rfl ?_
            exact vX2_readClause_106 C h0 hr  (sS (uS σ 1 ((sS σ 1) + 1)) 1) r5.2  hF
      · refine vv_iconst (v := 3) C dX2_readClause_77 (by decide) ?_
        refine vv_aload_n C dX2_readClause_78 3 rfl ?_
        refine vv_get (v := .int (sS r5.2 1)) C (hi_X2_readClause_X2) 25 (wX_g25 cy ad fad _) rfl 2 (by decide) (List.mem_of_getElem? (i := 1) rfl) rfl dX2_readClause_79 ?_
        refine vv_callSi (fun r12 => r12) (fun r12 => (wX cy ad fad r5.2)) C eX_ok h0 [.int 3, .int (sS r5.2 1)] [] 2 hF (fun r12 hr12 => kX2_faultAt l D (tysW cy) eX_ok (wX cy ad fad r5.2) 3 (sS r5.2 1) r12  hr12) gX2_readClause_X2_faultAt rfl rfl rfl (by decide +kernel) ⟨by decide, by decide⟩ rfl rfl (Nat.le_of_ble_eq_true rfl) dX2_readClause_82 ⟨by decide, by decide⟩ (fun r12 hqr12 hF => ?_)
        cases hF
        exact hr _ _ dX2_readClause_85 rfl
    · refine vv_iconst (v := 2) C dX2_readClause_53 (by decide) ?_
      refine vv_iload_n C dX2_readClause_54 0 rfl ?_
      refine vv_callSi (fun r14 => r14) (fun r14 => (wX cy ad fad (uS σ 1 ((sS σ 1) + 1)))) C eX_ok h0 [.int 2, .int (sS (uS σ 1 ((sS σ 1) + 1)) 1)] [] 2 hF (fun r14 hr14 => kX2_faultAt l D (tysW cy) eX_ok (wX cy ad fad (uS σ 1 ((sS σ 1) + 1))) 2 (sS (uS σ 1 ((sS σ 1) + 1)) 1) r14  hr14) gX2_readClause_X2_faultAt rfl rfl rfl (by decide +kernel) ⟨by decide, by decide⟩ rfl rfl (Nat.le_of_ble_eq_true rfl) dX2_readClause_55 ⟨by decide, by decide⟩ (fun r14 hqr14 hF => ?_)
      cases hF
      exact hr _ _ dX2_readClause_58 rfl
  · refine vv_iconst (v := 1) C dX2_readClause_21 (by decide) ?_
    refine vv_aload_n C dX2_readClause_22 1 rfl ?_
    refine vv_get (v := .int (sS σ 1)) C (hi_X2_readClause_X2) 25 (wX_g25 cy ad fad _) rfl 2 (by decide) (List.mem_of_getElem? (i := 1) rfl) rfl dX2_readClause_23 ?_
    refine vv_callSi (fun r16 => r16) (fun r16 => (wX cy ad fad σ)) C eX_ok h0 [.int 1, .int (sS σ 1)] [] 2 hF (fun r16 hr16 => kX2_faultAt l D (tysW cy) eX_ok (wX cy ad fad σ) 1 (sS σ 1) r16  hr16) gX2_readClause_X2_faultAt rfl rfl rfl (by decide +kernel) ⟨by decide, by decide⟩ rfl rfl (Nat.le_of_ble_eq_true rfl) dX2_readClause_26 ⟨by decide, by decide⟩ (fun r16 hqr16 hF => ?_)
    cases hF
    exact hr _ _ dX2_readClause_29 rfl
/-! X2_read -/
abbrev rmX2_read : Room := { frames := 6, cells := 0, slots := 0, locals := 135 }
theorem hi_X2_read_X2 : ∀ w ∈ wsX20, w ∈ wsX2_read := fun w h => List.mem_cons_of_mem _ (List.mem_append_left _ (List.mem_append_right _ h))
def fX2_read_53 (σ : St_) : Option (Int32 × St_) := some (0, uA σ 1 (va_cpy (sM σ 2) (sM σ 1) 0 0 6))
def fX2_read_83 (σ : St_) : Option (Int32 × St_) := (bn_ (fX2_faultAt 5 (sS σ 1)) fun r10 => some (r10, σ))
def fX2_read_108 (σ : St_) : Option (Int32 × St_) := (bn_ (fX2_faultAt 1 (sS σ 1)) fun r9 => some (r9, σ))
def fX2_read_21 : Nat → Int32 → St_ → Option (Int32 × St_)
  | 0, _, _ => none
  | n + 1, x2, σ => (bn_ (fX3_size σ) fun r1 => (if r1 < x2 then fX2_read_108  σ else (bn_ (fX2_readClause σ) fun r2 => (if r2.1 = 0 then (bn_ (fX3_at (sS r2.2 1) r2.2) fun r3 => (if r3 = (-1) then fX2_read_53  r2.2 else (bn_ (fX3_at (sS r2.2 1) r2.2) fun r4 => (if r4 = 59 then fX2_read_21  n (x2 + 1) (uS r2.2 1 ((sS r2.2 1) + 1)) else fX2_read_83  r2.2)))) else some (r2.1, r2.2)))))
def fX2_read (σ : St_) : Option (Int32 × St_) := fX2_read_21  FU_ 0 (uS (uA σ 2 (va_cpy (fun j => lsA.getD j 0) (sM σ 2) 0 0 6)) 1 0)
set_option maxHeartbeats 4000000 in
set_option maxRecDepth 20000 in
theorem vX2_read_53 {p : Program} {l : Launch} {e : Env} {s : State} {m : MethodId} {args : Array Value} {below : List Frame} {meth : Method} {c : Code} {D : va_G} {A : Nat → Prop} {Q : State → Prop} {cy : Nat → ClassId} {ad fad : Nat → Nat} {res : Int32 × St_} (C : vv_X p s m args meth c D (tysW cy) A 4 cX2_read RX2 wsX2_read) (h0 : eX A s) (hr : rt_I p l e rmX2_read s m args below meth c D A 4 Q cX2_read .int (wX cy ad fad res.2) res.1) : ∀ (σ : St_), fX2_read_53  σ = some res → vv_ p l e rmX2_read s m args below meth c D A 4 Q 0 0 (wX cy ad fad σ) [(0, .ref (ad 25))] 53 [] := by
  intro σ hF
  replace hF : (some (0, uA σ 1 (va_cpy (sM σ 2) (sM σ 1) 0 0 6)) : Option (Int32 × St_)) = some res := hF
  refine vv_aload_n C dX2_read_53 0 rfl ?_
  refine vv_get (v := .ref (ad 2)) C (hi_X2_read_X2) 25 (wX_g25 cy ad fad _) rfl 1 (by decide) (List.mem_of_getElem? (i := 2) rfl) rfl dX2_read_54 ?_
  refine vv_iconst (v := 0) C dX2_read_57 (by decide) ?_
  refine vv_aload_n C dX2_read_58 0 rfl ?_
  refine vv_get (v := .ref (ad 1)) C (hi_X2_read_X2) 25 (wX_g25 cy ad fad _) rfl 0 (by decide) (List.mem_of_getElem? (i := 8) rfl) rfl dX2_read_59 ?_
  refine vv_iconst (v := 0) C dX2_read_62 (by decide) ?_
  refine vv_bipush (v := 6) C dX2_read_63 (by decide) ?_
  refine vv_copyi (w' := (wX cy ad fad (uA σ 1 (va_cpy (sM σ 2) (sM σ 1) 0 0 6)))) C (List.mem_of_getElem? (i := 3) rfl) (List.mem_of_getElem? (i := 4) rfl) (List.mem_of_getElem? (i := 5) rfl) (List.mem_of_getElem? (i := 6) rfl) 2 1 0 (wX_g2 cy ad fad _) (wX_g1 cy ad fad _) (tysW_0 cy) 6 (by decide) (by decide) (by decide) (by decide) (by decide) (Nat.le_of_ble_eq_true rfl) dX2_read_65 (wX_a1 _ _ _ _ _) ?_
  refine vv_iconst (v := 0) C dX2_read_68 (by decide) ?_
  cases hF
  exact hr _ _ dX2_read_69 rfl
set_option maxHeartbeats 4000000 in
set_option maxRecDepth 20000 in
theorem vX2_read_83 {p : Program} {l : Launch} {e : Env} {s : State} {m : MethodId} {args : Array Value} {below : List Frame} {meth : Method} {c : Code} {D : va_G} {A : Nat → Prop} {Q : State → Prop} {cy : Nat → ClassId} {ad fad : Nat → Nat} {res : Int32 × St_} (C : vv_X p s m args meth c D (tysW cy) A 4 cX2_read RX2 wsX2_read) (h0 : eX A s) (hr : rt_I p l e rmX2_read s m args below meth c D A 4 Q cX2_read .int (wX cy ad fad res.2) res.1) : ∀ (σ : St_), fX2_read_83  σ = some res → vv_ p l e rmX2_read s m args below meth c D A 4 Q 0 0 (wX cy ad fad σ) [(0, .ref (ad 25))] 83 [] := by
  intro σ hF
  replace hF : ((bn_ (fX2_faultAt 5 (sS σ 1)) fun r10 => some (r10, σ)) : Option (Int32 × St_)) = some res := hF
  refine vv_iconst (v := 5) C dX2_read_83 (by decide) ?_
  refine vv_aload_n C dX2_read_84 0 rfl ?_
  refine vv_get (v := .int (sS σ 1)) C (hi_X2_read_X2) 25 (wX_g25 cy ad fad _) rfl 2 (by decide) (List.mem_of_getElem? (i := 7) rfl) rfl dX2_read_85 ?_
  refine vv_callSi (fun r10 => r10) (fun r10 => (wX cy ad fad σ)) C eX_ok h0 [.int 5, .int (sS σ 1)] [] 2 hF (fun r10 hr10 => kX2_faultAt l D (tysW cy) eX_ok (wX cy ad fad σ) 5 (sS σ 1) r10  hr10) gX2_read_X2_faultAt rfl rfl rfl (by decide +kernel) ⟨by decide, by decide⟩ rfl rfl (Nat.le_of_ble_eq_true rfl) dX2_read_88 ⟨by decide, by decide⟩ (fun r10 hqr10 hF => ?_)
  cases hF
  exact hr _ _ dX2_read_91 rfl
set_option maxHeartbeats 4000000 in
set_option maxRecDepth 20000 in
theorem vX2_read_108 {p : Program} {l : Launch} {e : Env} {s : State} {m : MethodId} {args : Array Value} {below : List Frame} {meth : Method} {c : Code} {D : va_G} {A : Nat → Prop} {Q : State → Prop} {cy : Nat → ClassId} {ad fad : Nat → Nat} {res : Int32 × St_} (C : vv_X p s m args meth c D (tysW cy) A 4 cX2_read RX2 wsX2_read) (h0 : eX A s) (hr : rt_I p l e rmX2_read s m args below meth c D A 4 Q cX2_read .int (wX cy ad fad res.2) res.1) : ∀ (σ : St_), fX2_read_108  σ = some res → vv_ p l e rmX2_read s m args below meth c D A 4 Q 0 0 (wX cy ad fad σ) [(0, .ref (ad 25))] 108 [] := by
  intro σ hF
  replace hF : ((bn_ (fX2_faultAt 1 (sS σ 1)) fun r9 => some (r9, σ)) : Option (Int32 × St_)) = some res := hF
  refine vv_iconst (v := 1) C dX2_read_108 (by decide) ?_
  refine vv_aload_n C dX2_read_109 0 rfl ?_
  refine vv_get (v := .int (sS σ 1)) C (hi_X2_read_X2) 25 (wX_g25 cy ad fad _) rfl 2 (by decide) (List.mem_of_getElem? (i := 7) rfl) rfl dX2_read_110 ?_
  refine vv_callSi (fun r9 => r9) (fun r9 => (wX cy ad fad σ)) C eX_ok h0 [.int 1, .int (sS σ 1)] [] 2 hF (fun r9 hr9 => kX2_faultAt l D (tysW cy) eX_ok (wX cy ad fad σ) 1 (sS σ 1) r9  hr9) gX2_read_X2_faultAt rfl rfl rfl (by decide +kernel) ⟨by decide, by decide⟩ rfl rfl (Nat.le_of_ble_eq_true rfl) dX2_read_113 ⟨by decide, by decide⟩ (fun r9 hqr9 hF => ?_)
  cases hF
  exact hr _ _ dX2_read_116 rfl
set_option maxHeartbeats 4000000 in
set_option maxRecDepth 20000 in
theorem vX2_read_21 {p : Program} {l : Launch} {e : Env} {s : State} {m : MethodId} {args : Array Value} {below : List Frame} {meth : Method} {c : Code} {D : va_G} {A : Nat → Prop} {Q : State → Prop} {cy : Nat → ClassId} {ad fad : Nat → Nat} {res : Int32 × St_} (C : vv_X p s m args meth c D (tysW cy) A 4 cX2_read RX2 wsX2_read) (h0 : eX A s) (hr : rt_I p l e rmX2_read s m args below meth c D A 4 Q cX2_read .int (wX cy ad fad res.2) res.1) : ∀ (n : Nat) (x2 : Int32) (σ : St_), fX2_read_21  n x2 σ = some res → vv_ p l e rmX2_read s m args below meth c D A 4 Q 0 0 (wX cy ad fad σ) [(0, .ref (ad 25)), (1, .ref (ad 24)), (2, .int x2)] 21 [] := by
  intro n
  induction n with
  | zero =>
    intro x2 σ hF
    cases (show none = some res from hF)
  | succ n ih =>
    intro x2 σ hF
    replace hF : ((bn_ (fX3_size σ) fun r1 => (if r1 < x2 then fX2_read_108  σ else (bn_ (fX2_readClause σ) fun r2 => (if r2.1 = 0 then (bn_ (fX3_at (sS r2.2 1) r2.2) fun r3 => (if r3 = (-1) then fX2_read_53  r2.2 else (bn_ (fX3_at (sS r2.2 1) r2.2) fun r4 => (if r4 = 59 then fX2_read_21  n (x2 + 1) (uS r2.2 1 ((sS r2.2 1) + 1)) else fX2_read_83  r2.2)))) else some (r2.1, r2.2))))) : Option (Int32 × St_)) = some res := hF
    refine vv_iload_n C dX2_read_21 2 rfl ?_
    refine vv_aload_n C dX2_read_22 1 rfl ?_
    refine vv_callVi (fun r1 => r1) (fun r1 => (wX cy ad fad σ)) C eX_ok h0 [] [.int x2] 0 hF (fun r1 hr1 => kX3_size l D cy ad fad σ r1  hr1) gX2_read_X3_size rfl rfl rfl (by decide +kernel) ⟨by decide, by decide⟩ 24 (wX_g24 cy ad fad _) rfl rfl rfl (Nat.le_of_ble_eq_true rfl) dX2_read_23 ⟨by decide, by decide⟩ (fun r1 hqr1 hF => ?_)
    refine vv_icmp_gt (tgt := 108) C dX2_read_26 (by decide) hF (fun c8 hF => ?_) (fun c8 hF => ?_)
    · refine vv_lv [0] rfl ?_
      exact vX2_read_108 C h0 hr  σ  hF
    · refine vv_aload_n C dX2_read_29 0 rfl ?_
      refine vv_aload_n C dX2_read_30 1 rfl ?_
      refine vv_callVi (fun r2 => r2.1) (fun r2 => (wX cy ad fad r2.2)) C eX_ok h0 [.ref (ad 24)] [] 1 hF (fun r2 hr2 => kX2_readClause l D cy ad fad σ r2  hr2) gX2_read_X2_readClause rfl rfl rfl (by decide +kernel) ⟨by decide, by decide⟩ 25 (wX_g25 cy ad fad _) rfl rfl rfl (Nat.le_of_ble_eq_true rfl) dX2_read_31 ⟨by decide, by decide⟩ (fun r2 hqr2 hF => ?_)
      refine vv_istore_n (lv' := [(3, .int r2.1), (0, .ref (ad 25)), (1, .ref (ad 24)), (2, .int x2)]) C dX2_read_34 (by decide) rfl ?_
      refine vv_iload_n C dX2_read_35 0 rfl ?_
      refine vv_if_eq (tgt := 41) C dX2_read_36 (by decide) hF (fun c7 hF => ?_) (fun c7 hF => ?_)
      · refine vv_aload_n C dX2_read_41 2 rfl ?_
        refine vv_aload_n C dX2_read_42 1 rfl ?_
        refine vv_get (v := .int (sS r2.2 1)) C (hi_X2_read_X2) 25 (wX_g25 cy ad fad _) rfl 2 (by decide) (List.mem_of_getElem? (i := 7) rfl) rfl dX2_read_43 ?_
        refine vv_callVi (fun r3 => r3) (fun r3 => (wX cy ad fad r2.2)) C eX_ok h0 [.int (sS r2.2 1)] [] 1 hF (fun r3 hr3 => kX3_at l D cy ad fad (sS r2.2 1) r2.2 r3  hr3) gX2_read_X3_at rfl rfl rfl (by decide +kernel) ⟨by decide, by decide⟩ 24 (wX_g24 cy ad fad _) rfl rfl rfl (Nat.le_of_ble_eq_true rfl) dX2_read_46 ⟨by decide, by decide⟩ (fun r3 hqr3 hF => ?_)
        refine vv_iconst (v := (-1)) C dX2_read_49 (by decide) ?_
        refine vv_icmp_ne (tgt := 70) C dX2_read_50 (by decide) hF (fun c6 hF => ?_) (fun c6 hF => ?_)
        · refine vv_aload_n C dX2_read_70 2 rfl ?_
          refine vv_aload_n C dX2_read_71 1 rfl ?_
          refine vv_get (v := .int (sS r2.2 1)) C (hi_X2_read_X2) 25 (wX_g25 cy ad fad _) rfl 2 (by decide) (List.mem_of_getElem? (i := 7) rfl) rfl dX2_read_72 ?_
          refine vv_callVi (fun r4 => r4) (fun r4 => (wX cy ad fad r2.2)) C eX_ok h0 [.int (sS r2.2 1)] [] 1 hF (fun r4 hr4 => kX3_at l D cy ad fad (sS r2.2 1) r2.2 r4  hr4) gX2_read_X3_at rfl rfl rfl (by decide +kernel) ⟨by decide, by decide⟩ 24 (wX_g24 cy ad fad _) rfl rfl rfl (Nat.le_of_ble_eq_true rfl) dX2_read_75 ⟨by decide, by decide⟩ (fun r4 hqr4 hF => ?_)
          refine vv_bipush (v := 59) C dX2_read_78 (by decide) ?_
          refine vv_icmp_eq (tgt := 92) C dX2_read_80 (by decide) hF (fun c5 hF => ?_) (fun c5 hF => ?_)
          · refine vv_aload_n C dX2_read_92 1 rfl ?_
            refine vv_dup C dX2_read_93 rfl ?_
            refine vv_get (v := .int (sS r2.2 1)) C (hi_X2_read_X2) 25 (wX_g25 cy ad fad _) rfl 2 (by decide) (List.mem_of_getElem? (i := 7) rfl) rfl dX2_read_94 ?_
            refine vv_iconst (v := 1) C dX2_read_97 (by decide) ?_
            refine vv_iadd C dX2_read_98 ?_
            refine vv_put (w' := (wX cy ad fad (uS r2.2 1 ((sS r2.2 1) + 1)))) C (hi_X2_read_X2) tyX2 tyX2_ok nmX2 25 (wX_g25 cy ad fad _) rfl 2 (by decide) (List.mem_of_getElem? (i := 7) rfl) rfl rfl rfl (Nat.le_of_ble_eq_true rfl) dX2_read_99 (wX_s1 _ _ _ _ _) ?_
            refine vv_iinc (q := 3) (v := x2 + 1) (lv' := [(2, .int (x2 + 1)), (3, .int r2.1), (0, .ref (ad 25)), (1, .ref (ad 24))]) C dX2_read_102 rfl rfl (by decide) rfl ?_
            refine vv_goto (tgt := 21) C dX2_read_105 (by decide) ?_
            refine vv_lv [2, 3, 0] rfl ?_
            exact ih (x2 + 1) (uS r2.2 1 ((sS r2.2 1) + 1))  hF
          · refine vv_lv [1] rfl ?_
            exact vX2_read_83 C h0 hr  r2.2  hF
        · refine vv_lv [1] rfl ?_
          exact vX2_read_53 C h0 hr  r2.2  hF
      · refine vv_iload_n C dX2_read_39 0 rfl ?_
        cases hF
        exact hr _ _ dX2_read_40 rfl
set_option maxHeartbeats 4000000 in
set_option maxRecDepth 20000 in
theorem kX2_read (l : Launch) (D : va_G) (cy : Nat → ClassId) (ad fad : Nat → Nat) (σ : St_) (res : Int32 × St_)  (hF : fX2_read σ = some res) : ct_I l D (tysW cy) eX yX2_read wsX2_read rmX2_read [.ref (ad 25), .ref (ad 24)] (wX cy ad fad σ) res.1 (wX cy ad fad res.2) := by
  refine mt_I (by decide) rfl (Nat.le_of_ble_eq_true rfl) ?_
  intro p e s m args below meth c A Q C h0 hr
  replace C : vv_X p s m args meth c D (tysW cy) A 4 cX2_read RX2 wsX2_read := C
  replace hF : (fX2_read_21  FU_ 0 (uS (uA σ 2 (va_cpy (fun j => lsA.getD j 0) (sM σ 2) 0 0 6)) 1 0) : Option (Int32 × St_)) = some res := hF
  refine vv_lv [0, 1] (lv' := [(0, .ref (ad 25)), (1, .ref (ad 24))]) rfl ?_
  obtain ⟨hN0, tA, tL, tM, aK, aV, ⟨zA, yA⟩, ⟨zL, yL⟩, ⟨zM, yM⟩, zC, yR, yS⟩ := id h0
  refine vv_gets C zA (List.mem_of_getElem? (i := 1) rfl) dX2_read_0 ?_
  refine vv_iconst (v := 0) C dX2_read_3 (by decide) ?_
  refine vv_aload_n C dX2_read_4 0 rfl ?_
  refine vv_get (v := .ref (ad 2)) C (hi_X2_read_X2) 25 (wX_g25 cy ad fad _) rfl 1 (by decide) (List.mem_of_getElem? (i := 2) rfl) rfl dX2_read_5 ?_
  refine vv_iconst (v := 0) C dX2_read_8 (by decide) ?_
  refine vv_bipush (v := 6) C dX2_read_9 (by decide) ?_
  refine vv_copyT (w' := (wX cy ad fad (uA σ 2 (va_cpy (fun j => lsA.getD j 0) (sM σ 2) 0 0 6)))) C (List.mem_of_getElem? (i := 3) rfl) (List.mem_of_getElem? (i := 4) rfl) (List.mem_of_getElem? (i := 5) rfl) (List.mem_of_getElem? (i := 6) rfl) yA 2 0 (wX_g2 cy ad fad _) (tysW_0 cy) 6 (by decide) (by decide) (by decide) (by decide) (by decide) (Nat.le_of_ble_eq_true rfl) dX2_read_11 (wX_a2 _ _ _ _ _) ?_
  refine vv_aload_n C dX2_read_14 0 rfl ?_
  refine vv_iconst (v := 0) C dX2_read_15 (by decide) ?_
  refine vv_put (w' := (wX cy ad fad (uS (uA σ 2 (va_cpy (fun j => lsA.getD j 0) (sM σ 2) 0 0 6)) 1 0))) C (hi_X2_read_X2) tyX2 tyX2_ok nmX2 25 (wX_g25 cy ad fad _) rfl 2 (by decide) (List.mem_of_getElem? (i := 7) rfl) rfl rfl rfl (Nat.le_of_ble_eq_true rfl) dX2_read_16 (wX_s1 _ _ _ _ _) ?_
  refine vv_iconst (v := 0) C dX2_read_19 (by decide) ?_
  refine vv_istore_n (lv' := [(2, .int 0), (0, .ref (ad 25)), (1, .ref (ad 24))]) C dX2_read_20 (by decide) rfl ?_
  refine vv_lv [1, 2, 0] rfl ?_
  exact vX2_read_21 C h0 hr  FU_ 0 (uS (uA σ 2 (va_cpy (fun j => lsA.getD j 0) (sM σ 2) 0 0 6)) 1 0)  hF
/-! X4_endYear -/
abbrev rmX4_endYear : Room := { frames := 1, cells := 0, slots := 0, locals := 23 }
theorem hi_X4_endYear_X4 : ∀ w ∈ wsX40, w ∈ wsX4_endYear := fun w h => List.mem_cons_of_mem _ (List.mem_append_right _ h)
def fX4_endYear_47 (σ : St_) : Option St_ := some (uS σ 2 0)
def fX4_endYear_25 : Nat → Int32 → St_ → Option St_
  | 0, _, _ => none
  | n + 1, x1, σ => (if 10 ≤ x1 then fX4_endYear_47  σ else (gd_ x1 10 fun j2 => (bn_ (fJ7_fill_53178_qr j2 0 σ) fun r3 => fX4_endYear_25  n (x1 + 1) r3)))
def fX4_endYear (σ : St_) : Option St_ := (bn_ (fJ7_fill_53178_q3 0 (uA σ 4 (va_cpy (sM σ 3) (sM σ 4) 0 0 10))) fun r1 => fX4_endYear_25  FU_ 0 r1)
set_option maxHeartbeats 4000000 in
set_option maxRecDepth 20000 in
theorem vX4_endYear_47 {p : Program} {l : Launch} {e : Env} {s : State} {m : MethodId} {args : Array Value} {below : List Frame} {meth : Method} {c : Code} {D : va_G} {A : Nat → Prop} {Q : State → Prop} {cy : Nat → ClassId} {ad fad : Nat → Nat} {res : St_} (C : vv_X p s m args meth c D (tysW cy) A 2 cX4_endYear RX4 wsX4_endYear) (h0 : eX A s) (hr : rt_V p l e rmX4_endYear s m args below meth c D A 2 Q cX4_endYear (wX cy ad fad res)) : ∀ (σ : St_), fX4_endYear_47  σ = some res → vv_ p l e rmX4_endYear s m args below meth c D A 2 Q 0 0 (wX cy ad fad σ) [(0, .ref (ad 26))] 47 [] := by
  intro σ hF
  replace hF : (some (uS σ 2 0) : Option St_) = some res := hF
  refine vv_aload_n C dX4_endYear_47 0 rfl ?_
  refine vv_iconst (v := 0) C dX4_endYear_48 (by decide) ?_
  refine vv_put (w' := (wX cy ad fad (uS σ 2 0))) C (hi_X4_endYear_X4) tyX4 tyX4_ok nmX4 26 (wX_g26 cy ad fad _) rfl 3 (by decide) (List.mem_of_getElem? (i := 8) rfl) rfl (by decide +kernel) (by decide +kernel) (Nat.le_of_ble_eq_true rfl) dX4_endYear_49 (wX_s2 _ _ _ _ _) ?_
  cases hF
  exact hr _ _ dX4_endYear_52
set_option maxHeartbeats 4000000 in
set_option maxRecDepth 20000 in
theorem vX4_endYear_25 {p : Program} {l : Launch} {e : Env} {s : State} {m : MethodId} {args : Array Value} {below : List Frame} {meth : Method} {c : Code} {D : va_G} {A : Nat → Prop} {Q : State → Prop} {cy : Nat → ClassId} {ad fad : Nat → Nat} {res : St_} (C : vv_X p s m args meth c D (tysW cy) A 2 cX4_endYear RX4 wsX4_endYear) (h0 : eX A s) (hr : rt_V p l e rmX4_endYear s m args below meth c D A 2 Q cX4_endYear (wX cy ad fad res)) : ∀ (n : Nat) (x1 : Int32) (σ : St_), fX4_endYear_25  n x1 σ = some res → vv_ p l e rmX4_endYear s m args below meth c D A 2 Q 0 0 (wX cy ad fad σ) [(0, .ref (ad 26)), (1, .int x1)] 25 [] := by
  intro n
  induction n with
  | zero =>
    intro x1 σ hF
    cases (show none = some res from hF)
  | succ n ih =>
    intro x1 σ hF
    replace hF : ((if 10 ≤ x1 then fX4_endYear_47  σ else (gd_ x1 10 fun j2 => (bn_ (fJ7_fill_53178_qr j2 0 σ) fun r3 => fX4_endYear_25  n (x1 + 1) r3))) : Option St_) = some res := hF
    refine vv_iload_n C dX4_endYear_25 1 rfl ?_
    refine vv_bipush (v := 10) C dX4_endYear_26 (by decide) ?_
    refine vv_icmp_ge (tgt := 47) C dX4_endYear_28 (by decide) hF (fun c4 hF => ?_) (fun c4 hF => ?_)
    · refine vv_lv [0] rfl ?_
      exact vX4_endYear_47 C h0 hr  σ  hF
    · refine vv_aload_n C dX4_endYear_31 0 rfl ?_
      refine vv_get (v := .ref (ad 22)) C (hi_X4_endYear_X4) 26 (wX_g26 cy ad fad _) rfl 2 (by decide) (List.mem_of_getElem? (i := 7) rfl) rfl dX4_endYear_32 ?_
      refine vv_iload_n C dX4_endYear_35 1 rfl ?_
      refine vv_aldA C 22 4 (wX_g22 cy ad fad _) (tysW_4 cy) hF dX4_endYear_36 (fun j2 hj2 hF => ?_)
      refine vv_st (st' := [.ref (ad (12 + j2))]) (by rw [if_pos hj2]; rfl) ?_
      refine vv_iconst (v := 0) C dX4_endYear_37 (by decide) ?_
      refine vv_callSv  (fun r3 => (wX cy ad fad r3)) C eX_ok h0 [.ref (ad (12 + j2)), .int 0] [] 2 hF (fun r3 hr3 => kJ7_fill_53178_qr l D cy ad fad j2 0 σ r3 hj2 hr3) gX4_endYear_J7_fill_53178 rfl rfl rfl (by decide +kernel) ⟨by decide, by decide⟩ rfl rfl (Nat.le_of_ble_eq_true rfl) dX4_endYear_38 ⟨by decide, by decide⟩ (fun r3 hqr3 hF => ?_)
      refine vv_iinc (q := 1) (v := x1 + 1) (lv' := [(1, .int (x1 + 1)), (0, .ref (ad 26))]) C dX4_endYear_41 rfl rfl (by decide) rfl ?_
      refine vv_goto (tgt := 25) C dX4_endYear_44 (by decide) ?_
      refine vv_lv [1, 0] rfl ?_
      exact ih (x1 + 1) r3  hF
set_option maxHeartbeats 4000000 in
set_option maxRecDepth 20000 in
theorem kX4_endYear (l : Launch) (D : va_G) (cy : Nat → ClassId) (ad fad : Nat → Nat) (σ : St_) (res : St_)  (hF : fX4_endYear σ = some res) : ct_V l D (tysW cy) eX yX4_endYear wsX4_endYear rmX4_endYear [.ref (ad 26)] (wX cy ad fad σ) (wX cy ad fad res) := by
  refine mt_V (by decide) rfl (Nat.le_of_ble_eq_true rfl) ?_
  intro p e s m args below meth c A Q C h0 hr
  replace C : vv_X p s m args meth c D (tysW cy) A 2 cX4_endYear RX4 wsX4_endYear := C
  replace hF : ((bn_ (fJ7_fill_53178_q3 0 (uA σ 4 (va_cpy (sM σ 3) (sM σ 4) 0 0 10))) fun r1 => fX4_endYear_25  FU_ 0 r1) : Option St_) = some res := hF
  refine vv_lv [0] (lv' := [(0, .ref (ad 26))]) rfl ?_
  refine vv_aload_n C dX4_endYear_0 0 rfl ?_
  refine vv_get (v := .ref (ad 3)) C (hi_X4_endYear_X4) 26 (wX_g26 cy ad fad _) rfl 0 (by decide) (List.mem_of_getElem? (i := 1) rfl) rfl dX4_endYear_1 ?_
  refine vv_iconst (v := 0) C dX4_endYear_4 (by decide) ?_
  refine vv_aload_n C dX4_endYear_5 0 rfl ?_
  refine vv_get (v := .ref (ad 4)) C (hi_X4_endYear_X4) 26 (wX_g26 cy ad fad _) rfl 1 (by decide) (List.mem_of_getElem? (i := 2) rfl) rfl dX4_endYear_6 ?_
  refine vv_iconst (v := 0) C dX4_endYear_9 (by decide) ?_
  refine vv_bipush (v := 10) C dX4_endYear_10 (by decide) ?_
  refine vv_copyi (w' := (wX cy ad fad (uA σ 4 (va_cpy (sM σ 3) (sM σ 4) 0 0 10)))) C (List.mem_of_getElem? (i := 3) rfl) (List.mem_of_getElem? (i := 4) rfl) (List.mem_of_getElem? (i := 5) rfl) (List.mem_of_getElem? (i := 6) rfl) 3 4 0 (wX_g3 cy ad fad _) (wX_g4 cy ad fad _) (tysW_0 cy) 10 (by decide) (by decide) (by decide) (by decide) (by decide) (Nat.le_of_ble_eq_true rfl) dX4_endYear_12 (wX_a4 _ _ _ _ _) ?_
  refine vv_aload_n C dX4_endYear_15 0 rfl ?_
  refine vv_get (v := .ref (ad 3)) C (hi_X4_endYear_X4) 26 (wX_g26 cy ad fad _) rfl 0 (by decide) (List.mem_of_getElem? (i := 1) rfl) rfl dX4_endYear_16 ?_
  refine vv_iconst (v := 0) C dX4_endYear_19 (by decide) ?_
  refine vv_callSv  (fun r1 => (wX cy ad fad r1)) C eX_ok h0 [.ref (ad 3), .int 0] [] 2 hF (fun r1 hr1 => kJ7_fill_53178_q3 l D cy ad fad 0 (uA σ 4 (va_cpy (sM σ 3) (sM σ 4) 0 0 10)) r1  hr1) gX4_endYear_J7_fill_53178 rfl rfl rfl (by decide +kernel) ⟨by decide, by decide⟩ rfl rfl (Nat.le_of_ble_eq_true rfl) dX4_endYear_20 ⟨by decide, by decide⟩ (fun r1 hqr1 hF => ?_)
  refine vv_iconst (v := 0) C dX4_endYear_23 (by decide) ?_
  refine vv_istore_n (lv' := [(1, .int 0), (0, .ref (ad 26))]) C dX4_endYear_24 (by decide) rfl ?_
  refine vv_lv [1, 0] rfl ?_
  exact vX4_endYear_25 C h0 hr  FU_ 0 r1  hF
