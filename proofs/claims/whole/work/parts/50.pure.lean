/-! X5_isBelow -/
abbrev rmX5_isBelow : Room := { frames := 0, cells := 0, slots := 0, locals := 0 }
def fX5_isBelow (x0 : Int32) (x1 : Int32) : Option Int32 := (if x0 < 0 then some 0 else (if x1 ≤ x0 then some 0 else some 1))
set_option maxHeartbeats 4000000 in
set_option maxRecDepth 20000 in
theorem kX5_isBelow (l : Launch) (D : va_G) (tys : List (ClassId × FieldType)) {E : (Nat → Prop) → State → Prop} (hE : ct_E E) (w : va_W) (x0 : Int32) (x1 : Int32) (res : Int32)  (hF : fX5_isBelow x0 x1 = some res) : ct_I l D tys E yX5_isBelow wsX5_isBelow rmX5_isBelow [.int x0, .int x1] w res w := by
  refine mt_I (by decide) rfl (Nat.le_of_ble_eq_true rfl) ?_
  intro p e s m args below meth c A Q C h0 hr
  replace C : vv_X p s m args meth c D tys A 2 cX5_isBelow RX5 wsX5_isBelow := C
  replace hF : ((if x0 < 0 then some 0 else (if x1 ≤ x0 then some 0 else some 1)) : Option Int32) = some res := hF
  refine vv_lv [0, 1] (lv' := [(0, .int x0), (1, .int x1)]) rfl ?_
  refine vv_iload_n C dX5_isBelow_0 0 rfl ?_
  refine vv_if_lt (tgt := 13) C dX5_isBelow_1 (by decide) hF (fun c2 hF => ?_) (fun c2 hF => ?_)
  · refine vv_iconst (v := 0) C dX5_isBelow_13 (by decide) ?_
    cases hF
    exact hr _ _ dX5_isBelow_14 nb_Z0
  · refine vv_iload_n C dX5_isBelow_4 0 rfl ?_
    refine vv_iload_n C dX5_isBelow_5 1 rfl ?_
    refine vv_icmp_ge (tgt := 13) C dX5_isBelow_6 (by decide) hF (fun c1 hF => ?_) (fun c1 hF => ?_)
    · refine vv_iconst (v := 0) C dX5_isBelow_13 (by decide) ?_
      cases hF
      exact hr _ _ dX5_isBelow_14 nb_Z0
    · refine vv_iconst (v := 1) C dX5_isBelow_9 (by decide) ?_
      refine vv_goto (tgt := 14) C dX5_isBelow_10 (by decide) ?_
      cases hF
      exact hr _ _ dX5_isBelow_14 nb_Z1
/-! X5_hasBit -/
abbrev rmX5_hasBit : Room := { frames := 0, cells := 0, slots := 0, locals := 0 }
def fX5_hasBit (x0 : Int32) (x1 : Int32) : Option Int32 := (if ((x0 >>> (x1 &&& 31)) &&& 1) = 0 then some 0 else some 1)
set_option maxHeartbeats 4000000 in
set_option maxRecDepth 20000 in
theorem kX5_hasBit (l : Launch) (D : va_G) (tys : List (ClassId × FieldType)) {E : (Nat → Prop) → State → Prop} (hE : ct_E E) (w : va_W) (x0 : Int32) (x1 : Int32) (res : Int32)  (hF : fX5_hasBit x0 x1 = some res) : ct_I l D tys E yX5_hasBit wsX5_hasBit rmX5_hasBit [.int x0, .int x1] w res w := by
  refine mt_I (by decide) rfl (Nat.le_of_ble_eq_true rfl) ?_
  intro p e s m args below meth c A Q C h0 hr
  replace C : vv_X p s m args meth c D tys A 2 cX5_hasBit RX5 wsX5_hasBit := C
  replace hF : ((if ((x0 >>> (x1 &&& 31)) &&& 1) = 0 then some 0 else some 1) : Option Int32) = some res := hF
  refine vv_lv [0, 1] (lv' := [(0, .int x0), (1, .int x1)]) rfl ?_
  refine vv_iload_n C dX5_hasBit_0 0 rfl ?_
  refine vv_iload_n C dX5_hasBit_1 1 rfl ?_
  refine vv_ishr C dX5_hasBit_2 ?_
  refine vv_iconst (v := 1) C dX5_hasBit_3 (by decide) ?_
  refine vv_iand C dX5_hasBit_4 ?_
  refine vv_if_eq (tgt := 12) C dX5_hasBit_5 (by decide) hF (fun c1 hF => ?_) (fun c1 hF => ?_)
  · refine vv_iconst (v := 0) C dX5_hasBit_12 (by decide) ?_
    cases hF
    exact hr _ _ dX5_hasBit_13 nb_Z0
  · refine vv_iconst (v := 1) C dX5_hasBit_8 (by decide) ?_
    refine vv_goto (tgt := 13) C dX5_hasBit_9 (by decide) ?_
    cases hF
    exact hr _ _ dX5_hasBit_13 nb_Z1
/-! X5_oneIf -/
abbrev rmX5_oneIf : Room := { frames := 0, cells := 0, slots := 0, locals := 0 }
def fX5_oneIf (x0 : Int32) : Option Int32 := (if x0 = 0 then some 0 else some 1)
set_option maxHeartbeats 4000000 in
set_option maxRecDepth 20000 in
theorem kX5_oneIf (l : Launch) (D : va_G) (tys : List (ClassId × FieldType)) {E : (Nat → Prop) → State → Prop} (hE : ct_E E) (w : va_W) (x0 : Int32) (res : Int32)  (hF : fX5_oneIf x0 = some res) : ct_I l D tys E yX5_oneIf wsX5_oneIf rmX5_oneIf [.int x0] w res w := by
  refine mt_I (by decide) rfl (Nat.le_of_ble_eq_true rfl) ?_
  intro p e s m args below meth c A Q C h0 hr
  replace C : vv_X p s m args meth c D tys A 1 cX5_oneIf RX5 wsX5_oneIf := C
  replace hF : ((if x0 = 0 then some 0 else some 1) : Option Int32) = some res := hF
  refine vv_lv [0] (lv' := [(0, .int x0)]) rfl ?_
  refine vv_iload_n C dX5_oneIf_0 0 rfl ?_
  refine vv_if_eq (tgt := 8) C dX5_oneIf_1 (by decide) hF (fun c1 hF => ?_) (fun c1 hF => ?_)
  · refine vv_iconst (v := 0) C dX5_oneIf_8 (by decide) ?_
    cases hF
    exact hr _ _ dX5_oneIf_9 rfl
  · refine vv_iconst (v := 1) C dX5_oneIf_4 (by decide) ?_
    refine vv_goto (tgt := 9) C dX5_oneIf_5 (by decide) ?_
    cases hF
    exact hr _ _ dX5_oneIf_9 rfl
/-! J6_bitCount_0f7a4 -/
abbrev rmJ6_bitCount_0f7a4 : Room := { frames := 0, cells := 0, slots := 0, locals := 0 }
def fJ6_bitCount_0f7a4 (x0 : Int32) : Option Int32 := some ((((((((x0 - ((ushr_ x0 1) &&& 1431655765)) &&& 858993459) + ((ushr_ (x0 - ((ushr_ x0 1) &&& 1431655765)) 2) &&& 858993459)) + (ushr_ (((x0 - ((ushr_ x0 1) &&& 1431655765)) &&& 858993459) + ((ushr_ (x0 - ((ushr_ x0 1) &&& 1431655765)) 2) &&& 858993459)) 4)) &&& 252645135) + (ushr_ (((((x0 - ((ushr_ x0 1) &&& 1431655765)) &&& 858993459) + ((ushr_ (x0 - ((ushr_ x0 1) &&& 1431655765)) 2) &&& 858993459)) + (ushr_ (((x0 - ((ushr_ x0 1) &&& 1431655765)) &&& 858993459) + ((ushr_ (x0 - ((ushr_ x0 1) &&& 1431655765)) 2) &&& 858993459)) 4)) &&& 252645135) 8)) + (ushr_ ((((((x0 - ((ushr_ x0 1) &&& 1431655765)) &&& 858993459) + ((ushr_ (x0 - ((ushr_ x0 1) &&& 1431655765)) 2) &&& 858993459)) + (ushr_ (((x0 - ((ushr_ x0 1) &&& 1431655765)) &&& 858993459) + ((ushr_ (x0 - ((ushr_ x0 1) &&& 1431655765)) 2) &&& 858993459)) 4)) &&& 252645135) + (ushr_ (((((x0 - ((ushr_ x0 1) &&& 1431655765)) &&& 858993459) + ((ushr_ (x0 - ((ushr_ x0 1) &&& 1431655765)) 2) &&& 858993459)) + (ushr_ (((x0 - ((ushr_ x0 1) &&& 1431655765)) &&& 858993459) + ((ushr_ (x0 - ((ushr_ x0 1) &&& 1431655765)) 2) &&& 858993459)) 4)) &&& 252645135) 8)) 16)) &&& 63)
set_option maxHeartbeats 4000000 in
set_option maxRecDepth 20000 in
theorem kJ6_bitCount_0f7a4 (l : Launch) (D : va_G) (tys : List (ClassId × FieldType)) {E : (Nat → Prop) → State → Prop} (hE : ct_E E) (w : va_W) (x0 : Int32) (res : Int32)  (hF : fJ6_bitCount_0f7a4 x0 = some res) : ct_I l D tys E yJ6_bitCount_0f7a4 wsJ6_bitCount_0f7a4 rmJ6_bitCount_0f7a4 [.int x0] w res w := by
  refine mt_I (by decide) rfl (Nat.le_of_ble_eq_true rfl) ?_
  intro p e s m args below meth c A Q C h0 hr
  replace C : vv_X p s m args meth c D tys A 1 cJ6_bitCount_0f7a4 RJ6 wsJ6_bitCount_0f7a4 := C
  replace hF : (some ((((((((x0 - ((ushr_ x0 1) &&& 1431655765)) &&& 858993459) + ((ushr_ (x0 - ((ushr_ x0 1) &&& 1431655765)) 2) &&& 858993459)) + (ushr_ (((x0 - ((ushr_ x0 1) &&& 1431655765)) &&& 858993459) + ((ushr_ (x0 - ((ushr_ x0 1) &&& 1431655765)) 2) &&& 858993459)) 4)) &&& 252645135) + (ushr_ (((((x0 - ((ushr_ x0 1) &&& 1431655765)) &&& 858993459) + ((ushr_ (x0 - ((ushr_ x0 1) &&& 1431655765)) 2) &&& 858993459)) + (ushr_ (((x0 - ((ushr_ x0 1) &&& 1431655765)) &&& 858993459) + ((ushr_ (x0 - ((ushr_ x0 1) &&& 1431655765)) 2) &&& 858993459)) 4)) &&& 252645135) 8)) + (ushr_ ((((((x0 - ((ushr_ x0 1) &&& 1431655765)) &&& 858993459) + ((ushr_ (x0 - ((ushr_ x0 1) &&& 1431655765)) 2) &&& 858993459)) + (ushr_ (((x0 - ((ushr_ x0 1) &&& 1431655765)) &&& 858993459) + ((ushr_ (x0 - ((ushr_ x0 1) &&& 1431655765)) 2) &&& 858993459)) 4)) &&& 252645135) + (ushr_ (((((x0 - ((ushr_ x0 1) &&& 1431655765)) &&& 858993459) + ((ushr_ (x0 - ((ushr_ x0 1) &&& 1431655765)) 2) &&& 858993459)) + (ushr_ (((x0 - ((ushr_ x0 1) &&& 1431655765)) &&& 858993459) + ((ushr_ (x0 - ((ushr_ x0 1) &&& 1431655765)) 2) &&& 858993459)) 4)) &&& 252645135) 8)) 16)) &&& 63) : Option Int32) = some res := hF
  refine vv_lv [0] (lv' := [(0, .int x0)]) rfl ?_
  refine vv_iload_n C dJ6_bitCount_0f7a4_0 0 rfl ?_
  refine vv_iload_n C dJ6_bitCount_0f7a4_1 0 rfl ?_
  refine vv_iconst (v := 1) C dJ6_bitCount_0f7a4_2 (by decide) ?_
  refine vv_iushr C dJ6_bitCount_0f7a4_3 ?_
  refine vv_ldcw (v := 1431655765) C (List.mem_of_getElem? (i := 1) rfl) dJ6_bitCount_0f7a4_4 ?_
  refine vv_iand C dJ6_bitCount_0f7a4_7 ?_
  refine vv_isub C dJ6_bitCount_0f7a4_8 ?_
  refine vv_istore_n (lv' := [(0, .int (x0 - ((ushr_ x0 1) &&& 1431655765)))]) C dJ6_bitCount_0f7a4_9 (by decide) rfl ?_
  refine vv_iload_n C dJ6_bitCount_0f7a4_10 0 rfl ?_
  refine vv_ldcw (v := 858993459) C (List.mem_of_getElem? (i := 2) rfl) dJ6_bitCount_0f7a4_11 ?_
  refine vv_iand C dJ6_bitCount_0f7a4_14 ?_
  refine vv_iload_n C dJ6_bitCount_0f7a4_15 0 rfl ?_
  refine vv_iconst (v := 2) C dJ6_bitCount_0f7a4_16 (by decide) ?_
  refine vv_iushr C dJ6_bitCount_0f7a4_17 ?_
  refine vv_ldcw (v := 858993459) C (List.mem_of_getElem? (i := 2) rfl) dJ6_bitCount_0f7a4_18 ?_
  refine vv_iand C dJ6_bitCount_0f7a4_21 ?_
  refine vv_iadd C dJ6_bitCount_0f7a4_22 ?_
  refine vv_istore_n (lv' := [(0, .int (((x0 - ((ushr_ x0 1) &&& 1431655765)) &&& 858993459) + ((ushr_ (x0 - ((ushr_ x0 1) &&& 1431655765)) 2) &&& 858993459)))]) C dJ6_bitCount_0f7a4_23 (by decide) rfl ?_
  refine vv_iload_n C dJ6_bitCount_0f7a4_24 0 rfl ?_
  refine vv_iload_n C dJ6_bitCount_0f7a4_25 0 rfl ?_
  refine vv_iconst (v := 4) C dJ6_bitCount_0f7a4_26 (by decide) ?_
  refine vv_iushr C dJ6_bitCount_0f7a4_27 ?_
  refine vv_iadd C dJ6_bitCount_0f7a4_28 ?_
  refine vv_ldcw (v := 252645135) C (List.mem_of_getElem? (i := 3) rfl) dJ6_bitCount_0f7a4_29 ?_
  refine vv_iand C dJ6_bitCount_0f7a4_32 ?_
  refine vv_istore_n (lv' := [(0, .int (((((x0 - ((ushr_ x0 1) &&& 1431655765)) &&& 858993459) + ((ushr_ (x0 - ((ushr_ x0 1) &&& 1431655765)) 2) &&& 858993459)) + (ushr_ (((x0 - ((ushr_ x0 1) &&& 1431655765)) &&& 858993459) + ((ushr_ (x0 - ((ushr_ x0 1) &&& 1431655765)) 2) &&& 858993459)) 4)) &&& 252645135))]) C dJ6_bitCount_0f7a4_33 (by decide) rfl ?_
  refine vv_iload_n C dJ6_bitCount_0f7a4_34 0 rfl ?_
  refine vv_iload_n C dJ6_bitCount_0f7a4_35 0 rfl ?_
  refine vv_bipush (v := 8) C dJ6_bitCount_0f7a4_36 (by decide) ?_
  refine vv_iushr C dJ6_bitCount_0f7a4_38 ?_
  refine vv_iadd C dJ6_bitCount_0f7a4_39 ?_
  refine vv_istore_n (lv' := [(0, .int ((((((x0 - ((ushr_ x0 1) &&& 1431655765)) &&& 858993459) + ((ushr_ (x0 - ((ushr_ x0 1) &&& 1431655765)) 2) &&& 858993459)) + (ushr_ (((x0 - ((ushr_ x0 1) &&& 1431655765)) &&& 858993459) + ((ushr_ (x0 - ((ushr_ x0 1) &&& 1431655765)) 2) &&& 858993459)) 4)) &&& 252645135) + (ushr_ (((((x0 - ((ushr_ x0 1) &&& 1431655765)) &&& 858993459) + ((ushr_ (x0 - ((ushr_ x0 1) &&& 1431655765)) 2) &&& 858993459)) + (ushr_ (((x0 - ((ushr_ x0 1) &&& 1431655765)) &&& 858993459) + ((ushr_ (x0 - ((ushr_ x0 1) &&& 1431655765)) 2) &&& 858993459)) 4)) &&& 252645135) 8)))]) C dJ6_bitCount_0f7a4_40 (by decide) rfl ?_
  refine vv_iload_n C dJ6_bitCount_0f7a4_41 0 rfl ?_
  refine vv_iload_n C dJ6_bitCount_0f7a4_42 0 rfl ?_
  refine vv_bipush (v := 16) C dJ6_bitCount_0f7a4_43 (by decide) ?_
  refine vv_iushr C dJ6_bitCount_0f7a4_45 ?_
  refine vv_iadd C dJ6_bitCount_0f7a4_46 ?_
  refine vv_istore_n (lv' := [(0, .int (((((((x0 - ((ushr_ x0 1) &&& 1431655765)) &&& 858993459) + ((ushr_ (x0 - ((ushr_ x0 1) &&& 1431655765)) 2) &&& 858993459)) + (ushr_ (((x0 - ((ushr_ x0 1) &&& 1431655765)) &&& 858993459) + ((ushr_ (x0 - ((ushr_ x0 1) &&& 1431655765)) 2) &&& 858993459)) 4)) &&& 252645135) + (ushr_ (((((x0 - ((ushr_ x0 1) &&& 1431655765)) &&& 858993459) + ((ushr_ (x0 - ((ushr_ x0 1) &&& 1431655765)) 2) &&& 858993459)) + (ushr_ (((x0 - ((ushr_ x0 1) &&& 1431655765)) &&& 858993459) + ((ushr_ (x0 - ((ushr_ x0 1) &&& 1431655765)) 2) &&& 858993459)) 4)) &&& 252645135) 8)) + (ushr_ ((((((x0 - ((ushr_ x0 1) &&& 1431655765)) &&& 858993459) + ((ushr_ (x0 - ((ushr_ x0 1) &&& 1431655765)) 2) &&& 858993459)) + (ushr_ (((x0 - ((ushr_ x0 1) &&& 1431655765)) &&& 858993459) + ((ushr_ (x0 - ((ushr_ x0 1) &&& 1431655765)) 2) &&& 858993459)) 4)) &&& 252645135) + (ushr_ (((((x0 - ((ushr_ x0 1) &&& 1431655765)) &&& 858993459) + ((ushr_ (x0 - ((ushr_ x0 1) &&& 1431655765)) 2) &&& 858993459)) + (ushr_ (((x0 - ((ushr_ x0 1) &&& 1431655765)) &&& 858993459) + ((ushr_ (x0 - ((ushr_ x0 1) &&& 1431655765)) 2) &&& 858993459)) 4)) &&& 252645135) 8)) 16)))]) C dJ6_bitCount_0f7a4_47 (by decide) rfl ?_
  refine vv_iload_n C dJ6_bitCount_0f7a4_48 0 rfl ?_
  refine vv_bipush (v := 63) C dJ6_bitCount_0f7a4_49 (by decide) ?_
  refine vv_iand C dJ6_bitCount_0f7a4_51 ?_
  cases hF
  exact hr _ _ dJ6_bitCount_0f7a4_52 rfl
/-! X1_placeVisited -/
abbrev rmX1_placeVisited : Room := { frames := 0, cells := 0, slots := 0, locals := 0 }
def fX1_placeVisited (x0 : Int32) : Option Int32 := some (10 + x0)
set_option maxHeartbeats 4000000 in
set_option maxRecDepth 20000 in
theorem kX1_placeVisited (l : Launch) (D : va_G) (tys : List (ClassId × FieldType)) {E : (Nat → Prop) → State → Prop} (hE : ct_E E) (w : va_W) (x0 : Int32) (res : Int32)  (hF : fX1_placeVisited x0 = some res) : ct_I l D tys E yX1_placeVisited wsX1_placeVisited rmX1_placeVisited [.int x0] w res w := by
  refine mt_I (by decide) rfl (Nat.le_of_ble_eq_true rfl) ?_
  intro p e s m args below meth c A Q C h0 hr
  replace C : vv_X p s m args meth c D tys A 1 cX1_placeVisited RX1 wsX1_placeVisited := C
  replace hF : (some (10 + x0) : Option Int32) = some res := hF
  refine vv_lv [0] (lv' := [(0, .int x0)]) rfl ?_
  refine vv_bipush (v := 10) C dX1_placeVisited_0 (by decide) ?_
  refine vv_iload_n C dX1_placeVisited_2 0 rfl ?_
  refine vv_iadd C dX1_placeVisited_3 ?_
  cases hF
  exact hr _ _ dX1_placeVisited_4 rfl
/-! X1_lowestBit -/
abbrev rmX1_lowestBit : Room := { frames := 1, cells := 0, slots := 0, locals := 20 }
def fX1_lowestBit (x0 : Int32) : Option Int32 := (bn_ (fJ6_bitCount_0f7a4 ((x0 &&& (-x0)) - 1)) fun r1 => some r1)
set_option maxHeartbeats 4000000 in
set_option maxRecDepth 20000 in
theorem kX1_lowestBit (l : Launch) (D : va_G) (tys : List (ClassId × FieldType)) {E : (Nat → Prop) → State → Prop} (hE : ct_E E) (w : va_W) (x0 : Int32) (res : Int32)  (hF : fX1_lowestBit x0 = some res) : ct_I l D tys E yX1_lowestBit wsX1_lowestBit rmX1_lowestBit [.int x0] w res w := by
  refine mt_I (by decide) rfl (Nat.le_of_ble_eq_true rfl) ?_
  intro p e s m args below meth c A Q C h0 hr
  replace C : vv_X p s m args meth c D tys A 1 cX1_lowestBit RX1 wsX1_lowestBit := C
  replace hF : ((bn_ (fJ6_bitCount_0f7a4 ((x0 &&& (-x0)) - 1)) fun r1 => some r1) : Option Int32) = some res := hF
  refine vv_lv [0] (lv' := [(0, .int x0)]) rfl ?_
  refine vv_iload_n C dX1_lowestBit_0 0 rfl ?_
  refine vv_iload_n C dX1_lowestBit_1 0 rfl ?_
  refine vv_ineg C dX1_lowestBit_2 ?_
  refine vv_iand C dX1_lowestBit_3 ?_
  refine vv_iconst (v := 1) C dX1_lowestBit_4 (by decide) ?_
  refine vv_isub C dX1_lowestBit_5 ?_
  refine vv_callSi (fun r1 => r1) (fun r1 => w) C hE h0 [.int ((x0 &&& (-x0)) - 1)] [] 1 hF (fun r1 hr1 => kJ6_bitCount_0f7a4 l D tys hE w ((x0 &&& (-x0)) - 1) r1  hr1) gX1_lowestBit_J6_bitCount_0f7a4 rfl rfl rfl (by decide +kernel) ⟨by decide, by decide⟩ rfl rfl (Nat.le_of_ble_eq_true rfl) dX1_lowestBit_6 ⟨by decide, by decide⟩ (fun r1 hqr1 hF => ?_)
  cases hF
  exact hr _ _ dX1_lowestBit_9 rfl
/-! X2_faultAt -/
abbrev rmX2_faultAt : Room := { frames := 0, cells := 0, slots := 0, locals := 0 }
def fX2_faultAt (x0 : Int32) (x1 : Int32) : Option Int32 := some ((100 * x0) + x1)
set_option maxHeartbeats 4000000 in
set_option maxRecDepth 20000 in
theorem kX2_faultAt (l : Launch) (D : va_G) (tys : List (ClassId × FieldType)) {E : (Nat → Prop) → State → Prop} (hE : ct_E E) (w : va_W) (x0 : Int32) (x1 : Int32) (res : Int32)  (hF : fX2_faultAt x0 x1 = some res) : ct_I l D tys E yX2_faultAt wsX2_faultAt rmX2_faultAt [.int x0, .int x1] w res w := by
  refine mt_I (by decide) rfl (Nat.le_of_ble_eq_true rfl) ?_
  intro p e s m args below meth c A Q C h0 hr
  replace C : vv_X p s m args meth c D tys A 2 cX2_faultAt RX2 wsX2_faultAt := C
  replace hF : (some ((100 * x0) + x1) : Option Int32) = some res := hF
  refine vv_lv [0, 1] (lv' := [(0, .int x0), (1, .int x1)]) rfl ?_
  refine vv_bipush (v := 100) C dX2_faultAt_0 (by decide) ?_
  refine vv_iload_n C dX2_faultAt_2 0 rfl ?_
  refine vv_imul C dX2_faultAt_3 ?_
  refine vv_iload_n C dX2_faultAt_4 1 rfl ?_
  refine vv_iadd C dX2_faultAt_5 ?_
  cases hF
  exact hr _ _ dX2_faultAt_6 rfl
/-! X6_lies -/
abbrev rmX6_lies : Room := { frames := 0, cells := 0, slots := 0, locals := 0 }
def fX6_lies (x0 : Int32) (x1 : Int32) (x2 : Int32) : Option Int32 := (if x0 < x1 then some 0 else (if x2 < x0 then some 0 else some 1))
set_option maxHeartbeats 4000000 in
set_option maxRecDepth 20000 in
theorem kX6_lies (l : Launch) (D : va_G) (tys : List (ClassId × FieldType)) {E : (Nat → Prop) → State → Prop} (hE : ct_E E) (w : va_W) (x0 : Int32) (x1 : Int32) (x2 : Int32) (res : Int32)  (hF : fX6_lies x0 x1 x2 = some res) : ct_I l D tys E yX6_lies wsX6_lies rmX6_lies [.int x0, .int x1, .int x2] w res w := by
  refine mt_I (by decide) rfl (Nat.le_of_ble_eq_true rfl) ?_
  intro p e s m args below meth c A Q C h0 hr
  replace C : vv_X p s m args meth c D tys A 3 cX6_lies RX6 wsX6_lies := C
  replace hF : ((if x0 < x1 then some 0 else (if x2 < x0 then some 0 else some 1)) : Option Int32) = some res := hF
  refine vv_lv [0, 1, 2] (lv' := [(0, .int x0), (1, .int x1), (2, .int x2)]) rfl ?_
  refine vv_iload_n C dX6_lies_0 0 rfl ?_
  refine vv_iload_n C dX6_lies_1 1 rfl ?_
  refine vv_icmp_lt (tgt := 14) C dX6_lies_2 (by decide) hF (fun c2 hF => ?_) (fun c2 hF => ?_)
  · refine vv_iconst (v := 0) C dX6_lies_14 (by decide) ?_
    cases hF
    exact hr _ _ dX6_lies_15 nb_Z0
  · refine vv_iload_n C dX6_lies_5 0 rfl ?_
    refine vv_iload_n C dX6_lies_6 2 rfl ?_
    refine vv_icmp_gt (tgt := 14) C dX6_lies_7 (by decide) hF (fun c1 hF => ?_) (fun c1 hF => ?_)
    · refine vv_iconst (v := 0) C dX6_lies_14 (by decide) ?_
      cases hF
      exact hr _ _ dX6_lies_15 nb_Z0
    · refine vv_iconst (v := 1) C dX6_lies_10 (by decide) ?_
      refine vv_goto (tgt := 15) C dX6_lies_11 (by decide) ?_
      cases hF
      exact hr _ _ dX6_lies_15 nb_Z1
/-! X6_letter -/
abbrev rmX6_letter : Room := { frames := 0, cells := 0, slots := 0, locals := 0 }
def fX6_letter (x0 : Int32) : Option Int32 := (if x0 = 98 then some 4 else if x0 = 103 then some 5 else if x0 = 110 then some 0 else if x0 = 118 then some 1 else if x0 = 119 then some 2 else if x0 = 120 then some 3 else some (-1))
set_option maxHeartbeats 4000000 in
set_option maxRecDepth 20000 in
theorem kX6_letter (l : Launch) (D : va_G) (tys : List (ClassId × FieldType)) {E : (Nat → Prop) → State → Prop} (hE : ct_E E) (w : va_W) (x0 : Int32) (res : Int32)  (hF : fX6_letter x0 = some res) : ct_I l D tys E yX6_letter wsX6_letter rmX6_letter [.int x0] w res w := by
  refine mt_I (by decide) rfl (Nat.le_of_ble_eq_true rfl) ?_
  intro p e s m args below meth c A Q C h0 hr
  replace C : vv_X p s m args meth c D tys A 1 cX6_letter RX6 wsX6_letter := C
  replace hF : ((if x0 = 98 then some 4 else if x0 = 103 then some 5 else if x0 = 110 then some 0 else if x0 = 118 then some 1 else if x0 = 119 then some 2 else if x0 = 120 then some 3 else some (-1)) : Option Int32) = some res := hF
  refine vv_lv [0] (lv' := [(0, .int x0)]) rfl ?_
  refine vv_iload_n C dX6_letter_0 0 rfl ?_
  by_cases s1 : x0 = 98
  · rw [if_pos s1] at hF
    refine vv_lookup (tgt := 68) (off := 67) C dX6_letter_1 (by decide +kernel) (by rw [s1]; decide +kernel) (by decide) ?_
    refine vv_iconst (v := 4) C dX6_letter_68 (by decide) ?_
    cases hF
    exact hr _ _ dX6_letter_69 rfl
  rw [if_neg s1] at hF
  by_cases s2 : x0 = 103
  · rw [if_pos s2] at hF
    refine vv_lookup (tgt := 70) (off := 69) C dX6_letter_1 (by decide +kernel) (by rw [s2]; decide +kernel) (by decide) ?_
    refine vv_iconst (v := 5) C dX6_letter_70 (by decide) ?_
    cases hF
    exact hr _ _ dX6_letter_71 rfl
  rw [if_neg s2] at hF
  by_cases s3 : x0 = 110
  · rw [if_pos s3] at hF
    refine vv_lookup (tgt := 60) (off := 59) C dX6_letter_1 (by decide +kernel) (by rw [s3]; decide +kernel) (by decide) ?_
    refine vv_iconst (v := 0) C dX6_letter_60 (by decide) ?_
    cases hF
    exact hr _ _ dX6_letter_61 rfl
  rw [if_neg s3] at hF
  by_cases s4 : x0 = 118
  · rw [if_pos s4] at hF
    refine vv_lookup (tgt := 62) (off := 61) C dX6_letter_1 (by decide +kernel) (by rw [s4]; decide +kernel) (by decide) ?_
    refine vv_iconst (v := 1) C dX6_letter_62 (by decide) ?_
    cases hF
    exact hr _ _ dX6_letter_63 rfl
  rw [if_neg s4] at hF
  by_cases s5 : x0 = 119
  · rw [if_pos s5] at hF
    refine vv_lookup (tgt := 64) (off := 63) C dX6_letter_1 (by decide +kernel) (by rw [s5]; decide +kernel) (by decide) ?_
    refine vv_iconst (v := 2) C dX6_letter_64 (by decide) ?_
    cases hF
    exact hr _ _ dX6_letter_65 rfl
  rw [if_neg s5] at hF
  by_cases s6 : x0 = 120
  · rw [if_pos s6] at hF
    refine vv_lookup (tgt := 66) (off := 65) C dX6_letter_1 (by decide +kernel) (by rw [s6]; decide +kernel) (by decide) ?_
    refine vv_iconst (v := 3) C dX6_letter_66 (by decide) ?_
    cases hF
    exact hr _ _ dX6_letter_67 rfl
  rw [if_neg s6] at hF
  refine vv_lookup (tgt := 72) (off := 71) C dX6_letter_1 (by decide +kernel) (by show Op.lookupswitch.offset [(98, 67), (103, 69), (110, 59), (118, 61), (119, 63), (120, 65)] _ _ = _; rw [lv_osw s1 (a := 98) (by decide +kernel), lv_osw s2 (a := 103) (by decide +kernel), lv_osw s3 (a := 110) (by decide +kernel), lv_osw s4 (a := 118) (by decide +kernel), lv_osw s5 (a := 119) (by decide +kernel), lv_osw s6 (a := 120) (by decide +kernel)]; rfl) (by decide) ?_
  refine vv_iconst (v := (-1)) C dX6_letter_72 (by decide) ?_
  cases hF
  exact hr _ _ dX6_letter_73 rfl
/-! X6_canBe -/
abbrev rmX6_canBe : Room := { frames := 1, cells := 0, slots := 0, locals := 22 }
def fX6_canBe (x0 : Int32) (x1 : Int32) : Option Int32 := (if x0 = 0 then (bn_ (fX6_lies x1 1 5) fun r1 => (gz_ r1 (some r1))) else if x0 = 1 then (if 9 < x1 then some 0 else some 1) else if x0 = 2 then (if x1 < 1 then some 0 else some 1) else if x0 = 3 then (if x1 < 1 then some 0 else some 1) else if x0 = 4 then (bn_ (fX6_lies x1 1 20) fun r9 => (gz_ r9 (some r9))) else if x0 = 5 then (if 100 < x1 then some 0 else some 1) else (if x1 < 1 then some 0 else some 1))
set_option maxHeartbeats 4000000 in
set_option maxRecDepth 20000 in
theorem kX6_canBe (l : Launch) (D : va_G) (tys : List (ClassId × FieldType)) {E : (Nat → Prop) → State → Prop} (hE : ct_E E) (w : va_W) (x0 : Int32) (x1 : Int32) (res : Int32)  (hF : fX6_canBe x0 x1 = some res) : ct_I l D tys E yX6_canBe wsX6_canBe rmX6_canBe [.int x0, .int x1] w res w := by
  refine mt_I (by decide) rfl (Nat.le_of_ble_eq_true rfl) ?_
  intro p e s m args below meth c A Q C h0 hr
  replace C : vv_X p s m args meth c D tys A 2 cX6_canBe RX6 wsX6_canBe := C
  replace hF : ((if x0 = 0 then (bn_ (fX6_lies x1 1 5) fun r1 => (gz_ r1 (some r1))) else if x0 = 1 then (if 9 < x1 then some 0 else some 1) else if x0 = 2 then (if x1 < 1 then some 0 else some 1) else if x0 = 3 then (if x1 < 1 then some 0 else some 1) else if x0 = 4 then (bn_ (fX6_lies x1 1 20) fun r9 => (gz_ r9 (some r9))) else if x0 = 5 then (if 100 < x1 then some 0 else some 1) else (if x1 < 1 then some 0 else some 1)) : Option Int32) = some res := hF
  refine vv_lv [0, 1] (lv' := [(0, .int x0), (1, .int x1)]) rfl ?_
  refine vv_iload_n C dX6_canBe_0 0 rfl ?_
  by_cases s2 : x0 = 0
  · rw [if_pos s2] at hF
    refine vv_tableIn (tgt := 40) C 0 s2 dX6_canBe_1 (by decide +kernel) (by decide +kernel) rfl (by decide) ?_
    refine vv_iload_n C dX6_canBe_40 1 rfl ?_
    refine vv_iconst (v := 1) C dX6_canBe_41 (by decide) ?_
    refine vv_iconst (v := 5) C dX6_canBe_42 (by decide) ?_
    refine vv_callSi (fun r1 => r1) (fun r1 => w) C hE h0 [.int x1, .int 1, .int 5] [] 3 hF (fun r1 hr1 => kX6_lies l D tys hE w x1 1 5 r1  hr1) gX6_canBe_X6_lies rfl rfl rfl (by decide +kernel) ⟨by decide, by decide⟩ rfl rfl (Nat.le_of_ble_eq_true rfl) dX6_canBe_43 ⟨by decide, by decide⟩ (fun r1 hqr1 hF => ?_)
    obtain ⟨hz, hF⟩ := gz_some hF
    cases hF
    exact hr _ _ dX6_canBe_46 (gz_nar hz)
  rw [if_neg s2] at hF
  by_cases s4 : x0 = 1
  · rw [if_pos s4] at hF
    refine vv_tableIn (tgt := 47) C 1 s4 dX6_canBe_1 (by decide +kernel) (by decide +kernel) rfl (by decide) ?_
    refine vv_iload_n C dX6_canBe_47 1 rfl ?_
    refine vv_bipush (v := 9) C dX6_canBe_48 (by decide) ?_
    refine vv_icmp_gt (tgt := 57) C dX6_canBe_50 (by decide) hF (fun c3 hF => ?_) (fun c3 hF => ?_)
    · refine vv_iconst (v := 0) C dX6_canBe_57 (by decide) ?_
      cases hF
      exact hr _ _ dX6_canBe_58 nb_Z0
    · refine vv_iconst (v := 1) C dX6_canBe_53 (by decide) ?_
      refine vv_goto (tgt := 58) C dX6_canBe_54 (by decide) ?_
      cases hF
      exact hr _ _ dX6_canBe_58 nb_Z1
  rw [if_neg s4] at hF
  by_cases s6 : x0 = 2
  · rw [if_pos s6] at hF
    refine vv_tableIn (tgt := 79) C 2 s6 dX6_canBe_1 (by decide +kernel) (by decide +kernel) rfl (by decide) ?_
    refine vv_iload_n C dX6_canBe_79 1 rfl ?_
    refine vv_iconst (v := 1) C dX6_canBe_80 (by decide) ?_
    refine vv_icmp_lt (tgt := 88) C dX6_canBe_81 (by decide) hF (fun c5 hF => ?_) (fun c5 hF => ?_)
    · refine vv_iconst (v := 0) C dX6_canBe_88 (by decide) ?_
      cases hF
      exact hr _ _ dX6_canBe_89 nb_Z0
    · refine vv_iconst (v := 1) C dX6_canBe_84 (by decide) ?_
      refine vv_goto (tgt := 89) C dX6_canBe_85 (by decide) ?_
      cases hF
      exact hr _ _ dX6_canBe_89 nb_Z1
  rw [if_neg s6] at hF
  by_cases s8 : x0 = 3
  · rw [if_pos s8] at hF
    refine vv_tableIn (tgt := 79) C 3 s8 dX6_canBe_1 (by decide +kernel) (by decide +kernel) rfl (by decide) ?_
    refine vv_iload_n C dX6_canBe_79 1 rfl ?_
    refine vv_iconst (v := 1) C dX6_canBe_80 (by decide) ?_
    refine vv_icmp_lt (tgt := 88) C dX6_canBe_81 (by decide) hF (fun c7 hF => ?_) (fun c7 hF => ?_)
    · refine vv_iconst (v := 0) C dX6_canBe_88 (by decide) ?_
      cases hF
      exact hr _ _ dX6_canBe_89 nb_Z0
    · refine vv_iconst (v := 1) C dX6_canBe_84 (by decide) ?_
      refine vv_goto (tgt := 89) C dX6_canBe_85 (by decide) ?_
      cases hF
      exact hr _ _ dX6_canBe_89 nb_Z1
  rw [if_neg s8] at hF
  by_cases s10 : x0 = 4
  · rw [if_pos s10] at hF
    refine vv_tableIn (tgt := 59) C 4 s10 dX6_canBe_1 (by decide +kernel) (by decide +kernel) rfl (by decide) ?_
    refine vv_iload_n C dX6_canBe_59 1 rfl ?_
    refine vv_iconst (v := 1) C dX6_canBe_60 (by decide) ?_
    refine vv_bipush (v := 20) C dX6_canBe_61 (by decide) ?_
    refine vv_callSi (fun r9 => r9) (fun r9 => w) C hE h0 [.int x1, .int 1, .int 20] [] 3 hF (fun r9 hr9 => kX6_lies l D tys hE w x1 1 20 r9  hr9) gX6_canBe_X6_lies rfl rfl rfl (by decide +kernel) ⟨by decide, by decide⟩ rfl rfl (Nat.le_of_ble_eq_true rfl) dX6_canBe_63 ⟨by decide, by decide⟩ (fun r9 hqr9 hF => ?_)
    obtain ⟨hz, hF⟩ := gz_some hF
    cases hF
    exact hr _ _ dX6_canBe_66 (gz_nar hz)
  rw [if_neg s10] at hF
  by_cases s12 : x0 = 5
  · rw [if_pos s12] at hF
    refine vv_tableIn (tgt := 67) C 5 s12 dX6_canBe_1 (by decide +kernel) (by decide +kernel) rfl (by decide) ?_
    refine vv_iload_n C dX6_canBe_67 1 rfl ?_
    refine vv_bipush (v := 100) C dX6_canBe_68 (by decide) ?_
    refine vv_icmp_gt (tgt := 77) C dX6_canBe_70 (by decide) hF (fun c11 hF => ?_) (fun c11 hF => ?_)
    · refine vv_iconst (v := 0) C dX6_canBe_77 (by decide) ?_
      cases hF
      exact hr _ _ dX6_canBe_78 nb_Z0
    · refine vv_iconst (v := 1) C dX6_canBe_73 (by decide) ?_
      refine vv_goto (tgt := 78) C dX6_canBe_74 (by decide) ?_
      cases hF
      exact hr _ _ dX6_canBe_78 nb_Z1
  rw [if_neg s12] at hF
  have ts2 := lv_neT s2 (a := 0) (by decide +kernel)
  have ts4 := lv_neT s4 (a := 1) (by decide +kernel)
  have ts6 := lv_neT s6 (a := 2) (by decide +kernel)
  have ts8 := lv_neT s8 (a := 3) (by decide +kernel)
  have ts10 := lv_neT s10 (a := 4) (by decide +kernel)
  have ts12 := lv_neT s12 (a := 5) (by decide +kernel)
  refine vv_tableOut (tgt := 79) C dX6_canBe_1 (by omega) (by decide) ?_
  refine vv_iload_n C dX6_canBe_79 1 rfl ?_
  refine vv_iconst (v := 1) C dX6_canBe_80 (by decide) ?_
  refine vv_icmp_lt (tgt := 88) C dX6_canBe_81 (by decide) hF (fun c13 hF => ?_) (fun c13 hF => ?_)
  · refine vv_iconst (v := 0) C dX6_canBe_88 (by decide) ?_
    cases hF
    exact hr _ _ dX6_canBe_89 nb_Z0
  · refine vv_iconst (v := 1) C dX6_canBe_84 (by decide) ?_
    refine vv_goto (tgt := 89) C dX6_canBe_85 (by decide) ?_
    cases hF
    exact hr _ _ dX6_canBe_89 nb_Z1
