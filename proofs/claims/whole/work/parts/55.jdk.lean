/-! J0_coder_7d493 -/
abbrev rmJ0_coder_7d493 : Room := { frames := 0, cells := 0, slots := 0, locals := 0 }
def fJ0_coder_7d493  : Option Int32 := (if (1 : Int32) = 0 then some 1 else some 0)
set_option maxHeartbeats 4000000 in
set_option maxRecDepth 20000 in
theorem kJ0_coder_7d493 (l : Launch) (D : va_G) (tys : List (ClassId × FieldType)) (q v : Nat) (w : va_W)  (res : Int32)  (hF : fJ0_coder_7d493  = some res) : ct_I l D tys (eQ q v) yJ0_coder_7d493 wsJ0_coder_7d493 rmJ0_coder_7d493 [.ref q] w res w := by
  refine mt_I (by decide) rfl (Nat.le_of_ble_eq_true rfl) ?_
  intro p e s m args below meth c A Q C h0 hr
  replace C : vv_X p s m args meth c D tys A 1 cJ0_coder_7d493 RJ0 wsJ0_coder_7d493 := C
  replace hF : ((if (1 : Int32) = 0 then some 1 else some 0) : Option Int32) = some res := hF
  refine vv_lv [0] (lv' := [(0, .ref q)]) rfl ?_
  refine vv_gets C h0.1 (List.mem_of_getElem? (i := 1) rfl) dJ0_coder_7d493_0 ?_
  refine vv_if_eq (tgt := 13) C dJ0_coder_7d493_3 (by decide) hF (fun c1 hF => ?_) (fun c1 hF => ?_)
  · refine vv_iconst (v := 1) C dJ0_coder_7d493_13 (by decide) ?_
    cases hF
    exact hr _ _ dJ0_coder_7d493_14 nb_B1
  · refine vv_aload_n C dJ0_coder_7d493_6 0 rfl ?_
    refine vv_gf (v := .int 0) C (h0.2.1 0 (by decide)).2.1 (List.mem_of_getElem? (i := 2) rfl) dJ0_coder_7d493_7 ?_
    refine vv_goto (tgt := 14) C dJ0_coder_7d493_10 (by decide) ?_
    cases hF
    exact hr _ _ dJ0_coder_7d493_14 nb_B0
/-! J0_length_8abf5 -/
abbrev rmJ0_length_8abf5 : Room := { frames := 1, cells := 0, slots := 0, locals := 20 }
def fJ0_length_8abf5  : Option Int32 := (bn_ (fJ0_coder_7d493 ) fun r1 => some (6 >>> (r1 &&& 31)))
set_option maxHeartbeats 4000000 in
set_option maxRecDepth 20000 in
theorem kJ0_length_8abf5 (l : Launch) (D : va_G) (tys : List (ClassId × FieldType)) (q v : Nat) (w : va_W)  (res : Int32)  (hF : fJ0_length_8abf5  = some res) : ct_I l D tys (eQ q v) yJ0_length_8abf5 wsJ0_length_8abf5 rmJ0_length_8abf5 [.ref q] w res w := by
  refine mt_I (by decide) rfl (Nat.le_of_ble_eq_true rfl) ?_
  intro p e s m args below meth c A Q C h0 hr
  replace C : vv_X p s m args meth c D tys A 1 cJ0_length_8abf5 RJ0 wsJ0_length_8abf5 := C
  replace hF : ((bn_ (fJ0_coder_7d493 ) fun r1 => some (6 >>> (r1 &&& 31))) : Option Int32) = some res := hF
  refine vv_lv [0] (lv' := [(0, .ref q)]) rfl ?_
  refine vv_aload_n C dJ0_length_8abf5_0 0 rfl ?_
  refine vv_gf (v := .ref v) C (h0.2.1 0 (by decide)).2.2.1 (List.mem_of_getElem? (i := 1) rfl) dJ0_length_8abf5_1 ?_
  refine vv_tlen (v := 6) C (show va_T .byte v 6 (fun j => .int (lsT.getD j 0)) A s s.heap from (h0.2.1 0 (by decide)).2.2.2) (by decide) dJ0_length_8abf5_4 ?_
  refine vv_aload_n C dJ0_length_8abf5_5 0 rfl ?_
  refine vv_callKi (fun r1 => r1) (fun r1 => w) C h0 [] [.int 6] 0 hF (fun r1 hr1 => kJ0_coder_7d493 l D tys q v w  r1  hr1) gJ0_length_8abf5_J0_coder_7d493 rfl rfl rfl (by decide +kernel) ⟨by decide, by decide⟩ rfl rfl (Nat.le_of_ble_eq_true rfl) dJ0_length_8abf5_6 ⟨by decide, by decide⟩ (fun r1 hqr1 hF => ?_)
  refine vv_ishr C dJ0_length_8abf5_9 ?_
  cases hF
  exact hr _ _ dJ0_length_8abf5_10 rfl
/-! J0_isLatin1_aae02 -/
abbrev rmJ0_isLatin1_aae02 : Room := { frames := 0, cells := 0, slots := 0, locals := 0 }
def fJ0_isLatin1_aae02  : Option Int32 := (if (1 : Int32) = 0 then some 0 else (if (0 : Int32) = 0 then some 1 else some 0))
set_option maxHeartbeats 4000000 in
set_option maxRecDepth 20000 in
theorem kJ0_isLatin1_aae02 (l : Launch) (D : va_G) (tys : List (ClassId × FieldType)) (q v : Nat) (w : va_W)  (res : Int32)  (hF : fJ0_isLatin1_aae02  = some res) : ct_I l D tys (eQ q v) yJ0_isLatin1_aae02 wsJ0_isLatin1_aae02 rmJ0_isLatin1_aae02 [.ref q] w res w := by
  refine mt_I (by decide) rfl (Nat.le_of_ble_eq_true rfl) ?_
  intro p e s m args below meth c A Q C h0 hr
  replace C : vv_X p s m args meth c D tys A 1 cJ0_isLatin1_aae02 RJ0 wsJ0_isLatin1_aae02 := C
  replace hF : ((if (1 : Int32) = 0 then some 0 else (if (0 : Int32) = 0 then some 1 else some 0)) : Option Int32) = some res := hF
  refine vv_lv [0] (lv' := [(0, .ref q)]) rfl ?_
  refine vv_gets C h0.1 (List.mem_of_getElem? (i := 1) rfl) dJ0_isLatin1_aae02_0 ?_
  refine vv_if_eq (tgt := 17) C dJ0_isLatin1_aae02_3 (by decide) hF (fun c2 hF => ?_) (fun c2 hF => ?_)
  · refine vv_iconst (v := 0) C dJ0_isLatin1_aae02_17 (by decide) ?_
    cases hF
    exact hr _ _ dJ0_isLatin1_aae02_18 nb_Z0
  · refine vv_aload_n C dJ0_isLatin1_aae02_6 0 rfl ?_
    refine vv_gf (v := .int 0) C (h0.2.1 0 (by decide)).2.1 (List.mem_of_getElem? (i := 2) rfl) dJ0_isLatin1_aae02_7 ?_
    refine vv_if_ne (tgt := 17) C dJ0_isLatin1_aae02_10 (by decide) hF (fun c1 hF => ?_) (fun c1 hF => ?_)
    · refine vv_iconst (v := 0) C dJ0_isLatin1_aae02_17 (by decide) ?_
      cases hF
      exact hr _ _ dJ0_isLatin1_aae02_18 nb_Z0
    · refine vv_iconst (v := 1) C dJ0_isLatin1_aae02_13 (by decide) ?_
      refine vv_goto (tgt := 18) C dJ0_isLatin1_aae02_14 (by decide) ?_
      cases hF
      exact hr _ _ dJ0_isLatin1_aae02_18 nb_Z1
/-! J1_canEncode_9a6ad -/
abbrev rmJ1_canEncode_9a6ad : Room := { frames := 0, cells := 0, slots := 0, locals := 0 }
def fJ1_canEncode_9a6ad (x0 : Int32) : Option Int32 := (if x0 < 0 then some 0 else (if 255 < x0 then some 0 else some 1))
set_option maxHeartbeats 4000000 in
set_option maxRecDepth 20000 in
theorem kJ1_canEncode_9a6ad (l : Launch) (D : va_G) (tys : List (ClassId × FieldType)) {E : (Nat → Prop) → State → Prop} (hE : ct_E E) (w : va_W) (x0 : Int32) (res : Int32)  (hF : fJ1_canEncode_9a6ad x0 = some res) : ct_I l D tys E yJ1_canEncode_9a6ad wsJ1_canEncode_9a6ad rmJ1_canEncode_9a6ad [.int x0] w res w := by
  refine mt_I (by decide) rfl (Nat.le_of_ble_eq_true rfl) ?_
  intro p e s m args below meth c A Q C h0 hr
  replace C : vv_X p s m args meth c D tys A 1 cJ1_canEncode_9a6ad RJ1 wsJ1_canEncode_9a6ad := C
  replace hF : ((if x0 < 0 then some 0 else (if 255 < x0 then some 0 else some 1)) : Option Int32) = some res := hF
  refine vv_lv [0] (lv' := [(0, .int x0)]) rfl ?_
  refine vv_iload_n C dJ1_canEncode_9a6ad_0 0 rfl ?_
  refine vv_if_lt (tgt := 15) C dJ1_canEncode_9a6ad_1 (by decide) hF (fun c2 hF => ?_) (fun c2 hF => ?_)
  · refine vv_iconst (v := 0) C dJ1_canEncode_9a6ad_15 (by decide) ?_
    cases hF
    exact hr _ _ dJ1_canEncode_9a6ad_16 nb_Z0
  · refine vv_iload_n C dJ1_canEncode_9a6ad_4 0 rfl ?_
    refine vv_sipush (v := 255) C dJ1_canEncode_9a6ad_5 (by decide) ?_
    refine vv_icmp_gt (tgt := 15) C dJ1_canEncode_9a6ad_8 (by decide) hF (fun c1 hF => ?_) (fun c1 hF => ?_)
    · refine vv_iconst (v := 0) C dJ1_canEncode_9a6ad_15 (by decide) ?_
      cases hF
      exact hr _ _ dJ1_canEncode_9a6ad_16 nb_Z0
    · refine vv_iconst (v := 1) C dJ1_canEncode_9a6ad_11 (by decide) ?_
      refine vv_goto (tgt := 16) C dJ1_canEncode_9a6ad_12 (by decide) ?_
      cases hF
      exact hr _ _ dJ1_canEncode_9a6ad_16 nb_Z1
/-! J1_indexOfChar_4cfef -/
abbrev rmJ1_indexOfChar_4cfef : Room := { frames := 0, cells := 0, slots := 0, locals := 0 }
def fJ1_indexOfChar_4cfef_7 : Nat → Int32 → Int32 → Int32 → Option Int32
  | 0, _, _, _ => none
  | n + 1, x3, x4, x5 => (if x3 ≤ x5 then some (-1) else (gd_ x5 6 fun j1 => (if (lsT.getD j1 0) = x4 then some x5 else fJ1_indexOfChar_4cfef_7  n x3 x4 (x5 + 1))))
def fJ1_indexOfChar_4cfef (x1 : Int32) (x2 : Int32) (x3 : Int32) : Option Int32 := fJ1_indexOfChar_4cfef_7  FU_ x3 (i2b_ x1) x2
set_option maxHeartbeats 4000000 in
set_option maxRecDepth 20000 in
theorem vJ1_indexOfChar_4cfef_7 {p : Program} {l : Launch} {e : Env} {s : State} {m : MethodId} {args : Array Value} {below : List Frame} {meth : Method} {c : Code} {D : va_G} {A : Nat → Prop} {Q : State → Prop} {tys : List (ClassId × FieldType)} {q v : Nat} {w : va_W} {res : Int32} (C : vv_X p s m args meth c D tys A 6 cJ1_indexOfChar_4cfef RJ1 wsJ1_indexOfChar_4cfef) (h0 : (eQ q v) A s) (hr : rt_I p l e rmJ1_indexOfChar_4cfef s m args below meth c D A 6 Q cJ1_indexOfChar_4cfef .int w res) : ∀ (n : Nat) (x3 : Int32) (x4 : Int32) (x5 : Int32), fJ1_indexOfChar_4cfef_7  n x3 x4 x5 = some res → vv_ p l e rmJ1_indexOfChar_4cfef s m args below meth c D A 6 Q 0 0 w [(0, .ref v), (3, .int x3), (4, .int x4), (5, .int x5)] 7 [] := by
  intro n
  induction n with
  | zero =>
    intro x3 x4 x5 hF
    cases (show none = some res from hF)
  | succ n ih =>
    intro x3 x4 x5 hF
    replace hF : ((if x3 ≤ x5 then some (-1) else (gd_ x5 6 fun j1 => (if (lsT.getD j1 0) = x4 then some x5 else fJ1_indexOfChar_4cfef_7  n x3 x4 (x5 + 1)))) : Option Int32) = some res := hF
    refine vv_iload C dJ1_indexOfChar_4cfef_7 3 rfl ?_
    refine vv_iload_n C dJ1_indexOfChar_4cfef_9 1 rfl ?_
    refine vv_icmp_ge (tgt := 31) C dJ1_indexOfChar_4cfef_10 (by decide) hF (fun c3 hF => ?_) (fun c3 hF => ?_)
    · refine vv_iconst (v := (-1)) C dJ1_indexOfChar_4cfef_31 (by decide) ?_
      cases hF
      exact hr _ _ dJ1_indexOfChar_4cfef_32 rfl
    · refine vv_aload_n C dJ1_indexOfChar_4cfef_13 0 rfl ?_
      refine vv_iload C dJ1_indexOfChar_4cfef_14 3 rfl ?_
      refine vv_tb C (show va_T .byte v 6 (fun j => .int (lsT.getD j 0)) A s s.heap from (h0.2.1 0 (by decide)).2.2.2) hF dJ1_indexOfChar_4cfef_16 (fun j1 hj1 hF => ?_)
      refine vv_iload C dJ1_indexOfChar_4cfef_17 2 rfl ?_
      refine vv_icmp_ne (tgt := 25) C dJ1_indexOfChar_4cfef_19 (by decide) hF (fun c2 hF => ?_) (fun c2 hF => ?_)
      · refine vv_iinc (q := 3) (v := x5 + 1) (lv' := [(5, .int (x5 + 1)), (0, .ref v), (3, .int x3), (4, .int x4)]) C dJ1_indexOfChar_4cfef_25 rfl rfl (by decide) rfl ?_
        refine vv_goto (tgt := 7) C dJ1_indexOfChar_4cfef_28 (by decide) ?_
        refine vv_lv [1, 2, 3, 0] rfl ?_
        exact ih x3 x4 (x5 + 1)  hF
      · refine vv_iload C dJ1_indexOfChar_4cfef_22 3 rfl ?_
        cases hF
        exact hr _ _ dJ1_indexOfChar_4cfef_24 rfl
set_option maxHeartbeats 4000000 in
set_option maxRecDepth 20000 in
theorem kJ1_indexOfChar_4cfef (l : Launch) (D : va_G) (tys : List (ClassId × FieldType)) (q v : Nat) (w : va_W) (x1 : Int32) (x2 : Int32) (x3 : Int32) (res : Int32)  (hF : fJ1_indexOfChar_4cfef x1 x2 x3 = some res) : ct_I l D tys (eQ q v) yJ1_indexOfChar_4cfef wsJ1_indexOfChar_4cfef rmJ1_indexOfChar_4cfef [.ref v, .int x1, .int x2, .int x3] w res w := by
  refine mt_I (by decide) rfl (Nat.le_of_ble_eq_true rfl) ?_
  intro p e s m args below meth c A Q C h0 hr
  replace C : vv_X p s m args meth c D tys A 6 cJ1_indexOfChar_4cfef RJ1 wsJ1_indexOfChar_4cfef := C
  replace hF : (fJ1_indexOfChar_4cfef_7  FU_ x3 (i2b_ x1) x2 : Option Int32) = some res := hF
  refine vv_lv [0, 1, 2, 3] (lv' := [(0, .ref v), (1, .int x1), (2, .int x2), (3, .int x3)]) rfl ?_
  refine vv_iload_n C dJ1_indexOfChar_4cfef_0 1 rfl ?_
  refine vv_i2b C dJ1_indexOfChar_4cfef_1 ?_
  refine vv_istore (lv' := [(4, .int (i2b_ x1)), (0, .ref v), (1, .int x1), (2, .int x2), (3, .int x3)]) C dJ1_indexOfChar_4cfef_2 (by decide) rfl ?_
  refine vv_iload_n C dJ1_indexOfChar_4cfef_4 3 rfl ?_
  refine vv_istore (lv' := [(5, .int x2), (4, .int (i2b_ x1)), (0, .ref v), (1, .int x1), (2, .int x2), (3, .int x3)]) C dJ1_indexOfChar_4cfef_5 (by decide) rfl ?_
  refine vv_lv [2, 5, 1, 0] rfl ?_
  exact vJ1_indexOfChar_4cfef_7 C h0 hr  FU_ x3 (i2b_ x1) x2  hF
/-! J1_indexOf_4cfef -/
abbrev rmJ1_indexOf_4cfef : Room := { frames := 1, cells := 0, slots := 0, locals := 25 }
def fJ1_indexOf_4cfef (x1 : Int32) (x2 : Int32) (x3 : Int32) : Option Int32 := (bn_ (fJ1_canEncode_9a6ad x1) fun r1 => (if r1 = 0 then some (-1) else (if (if x2 < 0 then 0 else x2) < (if 6 < x3 then 6 else x3) then (bn_ (fJ1_indexOfChar_4cfef x1 (if x2 < 0 then 0 else x2) (if 6 < x3 then 6 else x3)) fun r2 => some r2) else some (-1))))
set_option maxHeartbeats 4000000 in
set_option maxRecDepth 20000 in
theorem kJ1_indexOf_4cfef (l : Launch) (D : va_G) (tys : List (ClassId × FieldType)) (q v : Nat) (w : va_W) (x1 : Int32) (x2 : Int32) (x3 : Int32) (res : Int32)  (hF : fJ1_indexOf_4cfef x1 x2 x3 = some res) : ct_I l D tys (eQ q v) yJ1_indexOf_4cfef wsJ1_indexOf_4cfef rmJ1_indexOf_4cfef [.ref v, .int x1, .int x2, .int x3] w res w := by
  refine mt_I (by decide) rfl (Nat.le_of_ble_eq_true rfl) ?_
  intro p e s m args below meth c A Q C h0 hr
  replace C : vv_X p s m args meth c D tys A 4 cJ1_indexOf_4cfef RJ1 wsJ1_indexOf_4cfef := C
  replace hF : ((bn_ (fJ1_canEncode_9a6ad x1) fun r1 => (if r1 = 0 then some (-1) else (if (if x2 < 0 then 0 else x2) < (if 6 < x3 then 6 else x3) then (bn_ (fJ1_indexOfChar_4cfef x1 (if x2 < 0 then 0 else x2) (if 6 < x3 then 6 else x3)) fun r2 => some r2) else some (-1)))) : Option Int32) = some res := hF
  refine vv_lv [0, 1, 2, 3] (lv' := [(0, .ref v), (1, .int x1), (2, .int x2), (3, .int x3)]) rfl ?_
  refine vv_iload_n C dJ1_indexOf_4cfef_0 1 rfl ?_
  refine vv_callSi (fun r1 => r1) (fun r1 => w) C (eQ_ok q v) h0 [.int x1] [] 1 hF (fun r1 hr1 => kJ1_canEncode_9a6ad l D tys (eQ_ok q v) w x1 r1  hr1) gJ1_indexOf_4cfef_J1_canEncode_9a6ad rfl rfl rfl (by decide +kernel) ⟨by decide, by decide⟩ rfl rfl (Nat.le_of_ble_eq_true rfl) dJ1_indexOf_4cfef_1 ⟨by decide, by decide⟩ (fun r1 hqr1 hF => ?_)
  refine vv_if_ne (tgt := 9) C dJ1_indexOf_4cfef_4 (by decide) hF (fun c4 hF => ?_) (fun c4 hF => ?_)
  · refine vv_iload_n C dJ1_indexOf_4cfef_9 2 rfl ?_
    refine vv_iconst (v := 0) C dJ1_indexOf_4cfef_10 (by decide) ?_
    refine vv_mmax C (List.mem_of_getElem? (i := 1) rfl) (List.mem_of_getElem? (i := 2) rfl) (List.mem_of_getElem? (i := 3) rfl) (List.mem_of_getElem? (i := 4) rfl) (by decide) (Nat.le_of_ble_eq_true rfl) ⟨by decide, by decide⟩ dJ1_indexOf_4cfef_11 ?_
    refine vv_istore_n (lv' := [(2, .int (if x2 < 0 then 0 else x2)), (0, .ref v), (1, .int x1), (3, .int x3)]) C dJ1_indexOf_4cfef_14 (by decide) rfl ?_
    refine vv_iload_n C dJ1_indexOf_4cfef_15 3 rfl ?_
    refine vv_aload_n C dJ1_indexOf_4cfef_16 1 rfl ?_
    refine vv_tlen (v := 6) C (show va_T .byte v 6 (fun j => .int (lsT.getD j 0)) A s s.heap from (h0.2.1 0 (by decide)).2.2.2) (by decide) dJ1_indexOf_4cfef_17 ?_
    refine vv_mmin C (List.mem_of_getElem? (i := 5) rfl) (List.mem_of_getElem? (i := 6) rfl) (List.mem_of_getElem? (i := 3) rfl) (List.mem_of_getElem? (i := 7) rfl) (by decide) (Nat.le_of_ble_eq_true rfl) ⟨by decide, by decide⟩ dJ1_indexOf_4cfef_18 ?_
    refine vv_istore_n (lv' := [(3, .int (if 6 < x3 then 6 else x3)), (2, .int (if x2 < 0 then 0 else x2)), (0, .ref v), (1, .int x1)]) C dJ1_indexOf_4cfef_21 (by decide) rfl ?_
    refine vv_iload_n C dJ1_indexOf_4cfef_22 1 rfl ?_
    refine vv_iload_n C dJ1_indexOf_4cfef_23 0 rfl ?_
    refine vv_icmp_lt (tgt := 29) C dJ1_indexOf_4cfef_24 (by decide) hF (fun c3 hF => ?_) (fun c3 hF => ?_)
    · refine vv_aload_n C dJ1_indexOf_4cfef_29 2 rfl ?_
      refine vv_iload_n C dJ1_indexOf_4cfef_30 3 rfl ?_
      refine vv_iload_n C dJ1_indexOf_4cfef_31 1 rfl ?_
      refine vv_iload_n C dJ1_indexOf_4cfef_32 0 rfl ?_
      refine vv_callSi (fun r2 => r2) (fun r2 => w) C (eQ_ok q v) h0 [.ref v, .int x1, .int (if x2 < 0 then 0 else x2), .int (if 6 < x3 then 6 else x3)] [] 4 hF (fun r2 hr2 => kJ1_indexOfChar_4cfef l D tys q v w x1 (if x2 < 0 then 0 else x2) (if 6 < x3 then 6 else x3) r2  hr2) gJ1_indexOf_4cfef_J1_indexOfChar_4cfef rfl rfl rfl (by decide +kernel) ⟨by decide, by decide⟩ rfl rfl (Nat.le_of_ble_eq_true rfl) dJ1_indexOf_4cfef_33 ⟨by decide, by decide⟩ (fun r2 hqr2 hF => ?_)
      cases hF
      exact hr _ _ dJ1_indexOf_4cfef_36 rfl
    · refine vv_iconst (v := (-1)) C dJ1_indexOf_4cfef_27 (by decide) ?_
      cases hF
      exact hr _ _ dJ1_indexOf_4cfef_28 rfl
  · refine vv_iconst (v := (-1)) C dJ1_indexOf_4cfef_7 (by decide) ?_
    cases hF
    exact hr _ _ dJ1_indexOf_4cfef_8 rfl
/-! J0_indexOf_7cf53 -/
abbrev rmJ0_indexOf_7cf53 : Room := { frames := 2, cells := 0, slots := 0, locals := 48 }
def fJ0_indexOf_7cf53 (x1 : Int32) (x2 : Int32) : Option Int32 := (bn_ (fJ0_isLatin1_aae02 ) fun r1 => (if r1 = 0 then none else (bn_ (fJ0_length_8abf5 ) fun r2 => (bn_ (fJ1_indexOf_4cfef x1 x2 r2) fun r3 => some r3))))
set_option maxHeartbeats 4000000 in
set_option maxRecDepth 20000 in
theorem kJ0_indexOf_7cf53 (l : Launch) (D : va_G) (tys : List (ClassId × FieldType)) (q v : Nat) (w : va_W) (x1 : Int32) (x2 : Int32) (res : Int32)  (hF : fJ0_indexOf_7cf53 x1 x2 = some res) : ct_I l D tys (eQ q v) yJ0_indexOf_7cf53 wsJ0_indexOf_7cf53 rmJ0_indexOf_7cf53 [.ref q, .int x1, .int x2] w res w := by
  refine mt_I (by decide) rfl (Nat.le_of_ble_eq_true rfl) ?_
  intro p e s m args below meth c A Q C h0 hr
  replace C : vv_X p s m args meth c D tys A 3 cJ0_indexOf_7cf53 RJ0 wsJ0_indexOf_7cf53 := C
  replace hF : ((bn_ (fJ0_isLatin1_aae02 ) fun r1 => (if r1 = 0 then none else (bn_ (fJ0_length_8abf5 ) fun r2 => (bn_ (fJ1_indexOf_4cfef x1 x2 r2) fun r3 => some r3)))) : Option Int32) = some res := hF
  refine vv_lv [0, 1, 2] (lv' := [(0, .ref q), (1, .int x1), (2, .int x2)]) rfl ?_
  refine vv_aload_n C dJ0_indexOf_7cf53_0 0 rfl ?_
  refine vv_callKi (fun r1 => r1) (fun r1 => w) C h0 [] [] 0 hF (fun r1 hr1 => kJ0_isLatin1_aae02 l D tys q v w  r1  hr1) gJ0_indexOf_7cf53_J0_isLatin1_aae02 rfl rfl rfl (by decide +kernel) ⟨by decide, by decide⟩ rfl rfl (Nat.le_of_ble_eq_true rfl) dJ0_indexOf_7cf53_1 ⟨by decide, by decide⟩ (fun r1 hqr1 hF => ?_)
  refine vv_if_eq (tgt := 23) C dJ0_indexOf_7cf53_4 (by decide) hF (fun c4 hF => ?_) (fun c4 hF => ?_)
  · cases hF
  · refine vv_aload_n C dJ0_indexOf_7cf53_7 0 rfl ?_
    refine vv_gf (v := .ref v) C (h0.2.1 0 (by decide)).2.2.1 (List.mem_of_getElem? (i := 1) rfl) dJ0_indexOf_7cf53_8 ?_
    refine vv_iload_n C dJ0_indexOf_7cf53_11 1 rfl ?_
    refine vv_iload_n C dJ0_indexOf_7cf53_12 2 rfl ?_
    refine vv_aload_n C dJ0_indexOf_7cf53_13 0 rfl ?_
    refine vv_callKi (fun r2 => r2) (fun r2 => w) C h0 [] [.int x2, .int x1, .ref v] 0 hF (fun r2 hr2 => kJ0_length_8abf5 l D tys q v w  r2  hr2) gJ0_indexOf_7cf53_J0_length_8abf5 rfl rfl rfl (by decide +kernel) ⟨by decide, by decide⟩ rfl rfl (Nat.le_of_ble_eq_true rfl) dJ0_indexOf_7cf53_14 ⟨by decide, by decide⟩ (fun r2 hqr2 hF => ?_)
    refine vv_callSi (fun r3 => r3) (fun r3 => w) C (eQ_ok q v) h0 [.ref v, .int x1, .int x2, .int r2] [] 4 hF (fun r3 hr3 => kJ1_indexOf_4cfef l D tys q v w x1 x2 r2 r3  hr3) gJ0_indexOf_7cf53_J1_indexOf_4cfef rfl rfl rfl (by decide +kernel) ⟨by decide, by decide⟩ rfl rfl (Nat.le_of_ble_eq_true rfl) dJ0_indexOf_7cf53_17 ⟨by decide, by decide⟩ (fun r3 hqr3 hF => ?_)
    refine vv_goto (tgt := 36) C dJ0_indexOf_7cf53_20 (by decide) ?_
    cases hF
    exact hr _ _ dJ0_indexOf_7cf53_36 rfl
/-! J0_indexOf_0f7a4 -/
abbrev rmJ0_indexOf_0f7a4 : Room := { frames := 3, cells := 0, slots := 0, locals := 70 }
def fJ0_indexOf_0f7a4 (x1 : Int32) : Option Int32 := (bn_ (fJ0_indexOf_7cf53 x1 0) fun r1 => some r1)
set_option maxHeartbeats 4000000 in
set_option maxRecDepth 20000 in
theorem kJ0_indexOf_0f7a4 (l : Launch) (D : va_G) (tys : List (ClassId × FieldType)) (q v : Nat) (w : va_W) (x1 : Int32) (res : Int32)  (hF : fJ0_indexOf_0f7a4 x1 = some res) : ct_I l D tys (eQ q v) yJ0_indexOf_0f7a4 wsJ0_indexOf_0f7a4 rmJ0_indexOf_0f7a4 [.ref q, .int x1] w res w := by
  refine mt_I (by decide) rfl (Nat.le_of_ble_eq_true rfl) ?_
  intro p e s m args below meth c A Q C h0 hr
  replace C : vv_X p s m args meth c D tys A 2 cJ0_indexOf_0f7a4 RJ0 wsJ0_indexOf_0f7a4 := C
  replace hF : ((bn_ (fJ0_indexOf_7cf53 x1 0) fun r1 => some r1) : Option Int32) = some res := hF
  refine vv_lv [0, 1] (lv' := [(0, .ref q), (1, .int x1)]) rfl ?_
  refine vv_aload_n C dJ0_indexOf_0f7a4_0 0 rfl ?_
  refine vv_iload_n C dJ0_indexOf_0f7a4_1 1 rfl ?_
  refine vv_iconst (v := 0) C dJ0_indexOf_0f7a4_2 (by decide) ?_
  refine vv_callKi (fun r1 => r1) (fun r1 => w) C h0 [.int x1, .int 0] [] 2 hF (fun r1 hr1 => kJ0_indexOf_7cf53 l D tys q v w x1 0 r1  hr1) gJ0_indexOf_0f7a4_J0_indexOf_7cf53 rfl rfl rfl (by decide +kernel) ⟨by decide, by decide⟩ rfl rfl (Nat.le_of_ble_eq_true rfl) dJ0_indexOf_0f7a4_3 ⟨by decide, by decide⟩ (fun r1 hqr1 hF => ?_)
  cases hF
  exact hr _ _ dJ0_indexOf_0f7a4_6 rfl
/-! X2_kindOf -/
abbrev rmX2_kindOf : Room := { frames := 4, cells := 0, slots := 0, locals := 91 }
def fX2_kindOf (x0 : Int32) : Option Int32 := (if x0 = (-1) then some (-1) else (bn_ (fJ0_indexOf_0f7a4 (i2c_ x0)) fun r1 => some r1))
set_option maxHeartbeats 4000000 in
set_option maxRecDepth 20000 in
theorem kX2_kindOf (l : Launch) (D : va_G) (tys : List (ClassId × FieldType)) (w : va_W) (x0 : Int32) (res : Int32)  (hF : fX2_kindOf x0 = some res) : ct_I l D tys eX yX2_kindOf wsX2_kindOf rmX2_kindOf [.int x0] w res w := by
  refine mt_I (by decide) rfl (Nat.le_of_ble_eq_true rfl) ?_
  intro p e s m args below meth c A Q C h0 hr
  replace C : vv_X p s m args meth c D tys A 1 cX2_kindOf RX2 wsX2_kindOf := C
  replace hF : ((if x0 = (-1) then some (-1) else (bn_ (fJ0_indexOf_0f7a4 (i2c_ x0)) fun r1 => some r1)) : Option Int32) = some res := hF
  refine vv_lv [0] (lv' := [(0, .int x0)]) rfl ?_
  obtain ⟨q, v, yR, hQ⟩ := eX_Q h0
  refine vv_iload_n C dX2_kindOf_0 0 rfl ?_
  refine vv_iconst (v := (-1)) C dX2_kindOf_1 (by decide) ?_
  refine vv_icmp_ne (tgt := 9) C dX2_kindOf_2 (by decide) hF (fun c2 hF => ?_) (fun c2 hF => ?_)
  · refine vv_ldcS C yR dX2_kindOf_9 ?_
    refine vv_iload_n C dX2_kindOf_11 0 rfl ?_
    refine vv_i2c C dX2_kindOf_12 ?_
    refine vv_callKi (fun r1 => r1) (fun r1 => w) C hQ [.int (i2c_ x0)] [] 1 hF (fun r1 hr1 => kJ0_indexOf_0f7a4 l D tys q v w (i2c_ x0) r1  hr1) gX2_kindOf_J0_indexOf_0f7a4 rfl rfl rfl (by decide +kernel) ⟨by decide, by decide⟩ rfl rfl (Nat.le_of_ble_eq_true rfl) dX2_kindOf_13 ⟨by decide, by decide⟩ (fun r1 hqr1 hF => ?_)
    cases hF
    exact hr _ _ dX2_kindOf_16 rfl
  · refine vv_iconst (v := (-1)) C dX2_kindOf_5 (by decide) ?_
    refine vv_goto (tgt := 16) C dX2_kindOf_6 (by decide) ?_
    cases hF
    exact hr _ _ dX2_kindOf_16 rfl
