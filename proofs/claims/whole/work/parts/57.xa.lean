/-! X5_isFarm -/
abbrev rmX5_isFarm : Room := { frames := 1, cells := 0, slots := 0, locals := 21 }
theorem hi_X5_isFarm_X5 : ∀ w ∈ wsX50, w ∈ wsX5_isFarm := fun w h => List.mem_cons_of_mem _ (List.mem_append_right _ h)
def fX5_isFarm (x1 : Int32) (σ : St_) : Option Int32 := (bn_ (fX5_isBelow x1 (sS σ 5)) fun r1 => (gz_ r1 (some r1)))
set_option maxHeartbeats 4000000 in
set_option maxRecDepth 20000 in
theorem kX5_isFarm (l : Launch) (D : va_G) (cy : Nat → ClassId) (ad fad : Nat → Nat) (x1 : Int32) (σ : St_) (res : Int32)  (hF : fX5_isFarm x1 σ = some res) : ct_I l D (tysW cy) eX yX5_isFarm wsX5_isFarm rmX5_isFarm [.ref (ad 28), .int x1] (wX cy ad fad σ) res (wX cy ad fad σ) := by
  refine mt_I (by decide) rfl (Nat.le_of_ble_eq_true rfl) ?_
  intro p e s m args below meth c A Q C h0 hr
  replace C : vv_X p s m args meth c D (tysW cy) A 2 cX5_isFarm RX5 wsX5_isFarm := C
  replace hF : ((bn_ (fX5_isBelow x1 (sS σ 5)) fun r1 => (gz_ r1 (some r1))) : Option Int32) = some res := hF
  refine vv_lv [0, 1] (lv' := [(0, .ref (ad 28)), (1, .int x1)]) rfl ?_
  refine vv_iload_n C dX5_isFarm_0 1 rfl ?_
  refine vv_aload_n C dX5_isFarm_1 0 rfl ?_
  refine vv_get (v := .int (sS σ 5)) C (hi_X5_isFarm_X5) 28 (wX_g28 cy ad fad _) rfl 7 (by decide) (List.mem_of_getElem? (i := 1) rfl) rfl dX5_isFarm_2 ?_
  refine vv_callSi (fun r1 => r1) (fun r1 => (wX cy ad fad σ)) C eX_ok h0 [.int x1, .int (sS σ 5)] [] 2 hF (fun r1 hr1 => kX5_isBelow l D (tysW cy) eX_ok (wX cy ad fad σ) x1 (sS σ 5) r1  hr1) gX5_isFarm_X5_isBelow rfl rfl rfl (by decide +kernel) ⟨by decide, by decide⟩ rfl rfl (Nat.le_of_ble_eq_true rfl) dX5_isFarm_5 ⟨by decide, by decide⟩ (fun r1 hqr1 hF => ?_)
  obtain ⟨hz, hF⟩ := gz_some hF
  cases hF
  exact hr _ _ dX5_isFarm_8 (gz_nar hz)
/-! X5_areFarms -/
abbrev rmX5_areFarms : Room := { frames := 2, cells := 0, slots := 0, locals := 42 }
def fX5_areFarms (x1 : Int32) (x2 : Int32) (σ : St_) : Option Int32 := (bn_ (fX5_isFarm x1 σ) fun r1 => (if r1 = 0 then some 0 else (bn_ (fX5_isFarm x2 σ) fun r2 => (if r2 = 0 then some 0 else some 1))))
set_option maxHeartbeats 4000000 in
set_option maxRecDepth 20000 in
theorem kX5_areFarms (l : Launch) (D : va_G) (cy : Nat → ClassId) (ad fad : Nat → Nat) (x1 : Int32) (x2 : Int32) (σ : St_) (res : Int32)  (hF : fX5_areFarms x1 x2 σ = some res) : ct_I l D (tysW cy) eX yX5_areFarms wsX5_areFarms rmX5_areFarms [.ref (ad 28), .int x1, .int x2] (wX cy ad fad σ) res (wX cy ad fad σ) := by
  refine mt_I (by decide) rfl (Nat.le_of_ble_eq_true rfl) ?_
  intro p e s m args below meth c A Q C h0 hr
  replace C : vv_X p s m args meth c D (tysW cy) A 3 cX5_areFarms RX5 wsX5_areFarms := C
  replace hF : ((bn_ (fX5_isFarm x1 σ) fun r1 => (if r1 = 0 then some 0 else (bn_ (fX5_isFarm x2 σ) fun r2 => (if r2 = 0 then some 0 else some 1)))) : Option Int32) = some res := hF
  refine vv_lv [0, 1, 2] (lv' := [(0, .ref (ad 28)), (1, .int x1), (2, .int x2)]) rfl ?_
  refine vv_aload_n C dX5_areFarms_0 0 rfl ?_
  refine vv_iload_n C dX5_areFarms_1 1 rfl ?_
  refine vv_callVi (fun r1 => r1) (fun r1 => (wX cy ad fad σ)) C eX_ok h0 [.int x1] [] 1 hF (fun r1 hr1 => kX5_isFarm l D cy ad fad x1 σ r1  hr1) gX5_areFarms_X5_isFarm rfl rfl rfl (by decide +kernel) ⟨by decide, by decide⟩ 28 (wX_g28 cy ad fad _) rfl rfl rfl (Nat.le_of_ble_eq_true rfl) dX5_areFarms_2 ⟨by decide, by decide⟩ (fun r1 hqr1 hF => ?_)
  refine vv_if_eq (tgt := 20) C dX5_areFarms_5 (by decide) hF (fun c4 hF => ?_) (fun c4 hF => ?_)
  · refine vv_iconst (v := 0) C dX5_areFarms_20 (by decide) ?_
    cases hF
    exact hr _ _ dX5_areFarms_21 nb_Z0
  · refine vv_aload_n C dX5_areFarms_8 0 rfl ?_
    refine vv_iload_n C dX5_areFarms_9 2 rfl ?_
    refine vv_callVi (fun r2 => r2) (fun r2 => (wX cy ad fad σ)) C eX_ok h0 [.int x2] [] 1 hF (fun r2 hr2 => kX5_isFarm l D cy ad fad x2 σ r2  hr2) gX5_areFarms_X5_isFarm rfl rfl rfl (by decide +kernel) ⟨by decide, by decide⟩ 28 (wX_g28 cy ad fad _) rfl rfl rfl (Nat.le_of_ble_eq_true rfl) dX5_areFarms_10 ⟨by decide, by decide⟩ (fun r2 hqr2 hF => ?_)
    refine vv_if_eq (tgt := 20) C dX5_areFarms_13 (by decide) hF (fun c3 hF => ?_) (fun c3 hF => ?_)
    · refine vv_iconst (v := 0) C dX5_areFarms_20 (by decide) ?_
      cases hF
      exact hr _ _ dX5_areFarms_21 nb_Z0
    · refine vv_iconst (v := 1) C dX5_areFarms_16 (by decide) ?_
      refine vv_goto (tgt := 21) C dX5_areFarms_17 (by decide) ?_
      cases hF
      exact hr _ _ dX5_areFarms_21 nb_Z1
/-! X5_farmAt -/
abbrev rmX5_farmAt : Room := { frames := 2, cells := 0, slots := 0, locals := 42 }
theorem hi_X5_farmAt_X5 : ∀ w ∈ wsX50, w ∈ wsX5_farmAt := fun w h => List.mem_cons_of_mem _ (List.mem_append_right _ h)
def fX5_farmAt (x1 : Int32) (σ : St_) : Option (Option Nat) := (bn_ (fX5_isFarm x1 σ) fun r1 => (if r1 = 0 then some none else (gd_ x1 10 fun j2 => some (if j2 < sN σ then some j2 else none))))
set_option maxHeartbeats 4000000 in
set_option maxRecDepth 20000 in
theorem kX5_farmAt (l : Launch) (D : va_G) (cy : Nat → ClassId) (ad fad : Nat → Nat) (x1 : Int32) (σ : St_) (res : (Option Nat))  (hF : fX5_farmAt x1 σ = some res) : ct_Q l D (tysW cy) eX yX5_farmAt wsX5_farmAt rmX5_farmAt [.ref (ad 28), .int x1] (wX cy ad fad σ) (Option.map fad res) (wX cy ad fad σ) := by
  refine mt_Q (by decide) rfl (Nat.le_of_ble_eq_true rfl) ?_
  intro p e s m args below meth c A Q C h0 hr
  replace C : vv_X p s m args meth c D (tysW cy) A 2 cX5_farmAt RX5 wsX5_farmAt := C
  replace hF : ((bn_ (fX5_isFarm x1 σ) fun r1 => (if r1 = 0 then some none else (gd_ x1 10 fun j2 => some (if j2 < sN σ then some j2 else none)))) : Option (Option Nat)) = some res := hF
  refine vv_lv [0, 1] (lv' := [(0, .ref (ad 28)), (1, .int x1)]) rfl ?_
  refine vv_aload_n C dX5_farmAt_0 0 rfl ?_
  refine vv_iload_n C dX5_farmAt_1 1 rfl ?_
  refine vv_callVi (fun r1 => r1) (fun r1 => (wX cy ad fad σ)) C eX_ok h0 [.int x1] [] 1 hF (fun r1 hr1 => kX5_isFarm l D cy ad fad x1 σ r1  hr1) gX5_farmAt_X5_isFarm rfl rfl rfl (by decide +kernel) ⟨by decide, by decide⟩ 28 (wX_g28 cy ad fad _) rfl rfl rfl (Nat.le_of_ble_eq_true rfl) dX5_farmAt_2 ⟨by decide, by decide⟩ (fun r1 hqr1 hF => ?_)
  refine vv_if_eq (tgt := 17) C dX5_farmAt_5 (by decide) hF (fun c4 hF => ?_) (fun c4 hF => ?_)
  · refine vv_null C dX5_farmAt_17 ?_
    cases hF
    exact hr _ _ dX5_farmAt_18
  · refine vv_aload_n C dX5_farmAt_8 0 rfl ?_
    refine vv_get (v := .ref (ad 23)) C (hi_X5_farmAt_X5) 28 (wX_g28 cy ad fad _) rfl 4 (by decide) (List.mem_of_getElem? (i := 1) rfl) rfl dX5_farmAt_9 ?_
    refine vv_iload_n C dX5_farmAt_12 1 rfl ?_
    refine vv_aldq C 23 3 (wX_g23 cy ad fad _) (tysW_3 cy) hF dX5_farmAt_13 (fun j2 hj2 hF => ?_)
    refine vv_st (st' := [va_rf (Option.map fad (if j2 < sN σ then some j2 else none))]) (by by_cases hz : j2 < sN σ <;> simp [hz]) ?_
    refine vv_goto (tgt := 18) C dX5_farmAt_14 (by decide) ?_
    cases hF
    exact hr _ _ dX5_farmAt_18
theorem kX5_farmAt_lt {x1 : Int32} {σ : St_} {r : Option Nat} (h : fX5_farmAt x1 σ = some r) : ∀ i : Nat, r = some i → i < sN σ := by
  intro i hi
  unfold fX5_farmAt at h
  obtain ⟨a, -, h⟩ := bn_some h
  split at h
  · cases h
    cases hi
  · obtain ⟨-, -, h⟩ := gd_some h
    cases h
    split at hi
    · cases hi
      assumption
    · cases hi
/-! X5_buysFrom -/
abbrev rmX5_buysFrom : Room := { frames := 1, cells := 0, slots := 0, locals := 21 }
theorem hi_X5_buysFrom_X5 : ∀ w ∈ wsX50, w ∈ wsX5_buysFrom := fun w h => List.mem_cons_of_mem _ (List.mem_append_right _ h)
def fX5_buysFrom (x1 : Int32) (x2 : Int32) (σ : St_) : Option Int32 := (gd_ x1 10 fun j1 => (bn_ (fX5_hasBit (sM σ 10 j1) x2) fun r2 => (gz_ r2 (some r2))))
set_option maxHeartbeats 4000000 in
set_option maxRecDepth 20000 in
theorem kX5_buysFrom (l : Launch) (D : va_G) (cy : Nat → ClassId) (ad fad : Nat → Nat) (x1 : Int32) (x2 : Int32) (σ : St_) (res : Int32)  (hF : fX5_buysFrom x1 x2 σ = some res) : ct_I l D (tysW cy) eX yX5_buysFrom wsX5_buysFrom rmX5_buysFrom [.ref (ad 28), .int x1, .int x2] (wX cy ad fad σ) res (wX cy ad fad σ) := by
  refine mt_I (by decide) rfl (Nat.le_of_ble_eq_true rfl) ?_
  intro p e s m args below meth c A Q C h0 hr
  replace C : vv_X p s m args meth c D (tysW cy) A 3 cX5_buysFrom RX5 wsX5_buysFrom := C
  replace hF : ((gd_ x1 10 fun j1 => (bn_ (fX5_hasBit (sM σ 10 j1) x2) fun r2 => (gz_ r2 (some r2)))) : Option Int32) = some res := hF
  refine vv_lv [0, 1, 2] (lv' := [(0, .ref (ad 28)), (1, .int x1), (2, .int x2)]) rfl ?_
  refine vv_aload_n C dX5_buysFrom_0 0 rfl ?_
  refine vv_get (v := .ref (ad 10)) C (hi_X5_buysFrom_X5) 28 (wX_g28 cy ad fad _) rfl 5 (by decide) (List.mem_of_getElem? (i := 1) rfl) rfl dX5_buysFrom_1 ?_
  refine vv_iload_n C dX5_buysFrom_4 1 rfl ?_
  refine vv_iald C 10 0 (wX_g10 cy ad fad _) (tysW_0 cy) hF dX5_buysFrom_5 (fun j1 hj1 hF => ?_)
  refine vv_iload_n C dX5_buysFrom_6 2 rfl ?_
  refine vv_callSi (fun r2 => r2) (fun r2 => (wX cy ad fad σ)) C eX_ok h0 [.int (sM σ 10 j1), .int x2] [] 2 hF (fun r2 hr2 => kX5_hasBit l D (tysW cy) eX_ok (wX cy ad fad σ) (sM σ 10 j1) x2 r2  hr2) gX5_buysFrom_X5_hasBit rfl rfl rfl (by decide +kernel) ⟨by decide, by decide⟩ rfl rfl (Nat.le_of_ble_eq_true rfl) dX5_buysFrom_7 ⟨by decide, by decide⟩ (fun r2 hqr2 hF => ?_)
  obtain ⟨hz, hF⟩ := gz_some hF
  cases hF
  exact hr _ _ dX5_buysFrom_10 (gz_nar hz)
/-! X5_areKin -/
abbrev rmX5_areKin : Room := { frames := 3, cells := 0, slots := 0, locals := 63 }
theorem hi_X5_areKin_X0 : ∀ w ∈ wsX00, w ∈ wsX5_areKin := fun w h => List.mem_cons_of_mem _ (List.mem_append_left _ (List.mem_append_right _ h))
def fX5_areKin (x1 : Int32) (x2 : Int32) (σ : St_) : Option Int32 := (bn_ (fX5_farmAt x1 σ) fun r1 => (match r1 with | none => (bn_ (fX5_farmAt x2 σ) fun r3 => (match r3 with | none => some 0 | some i4 => some 0)) | some i2 => (bn_ (fX5_farmAt x2 σ) fun r5 => (match r5 with | none => some 0 | some i6 => (if (sF σ i2 0) = (sF σ i6 0) then some 1 else some 0)))))
set_option maxHeartbeats 4000000 in
set_option maxRecDepth 20000 in
theorem kX5_areKin (l : Launch) (D : va_G) (cy : Nat → ClassId) (ad fad : Nat → Nat) (x1 : Int32) (x2 : Int32) (σ : St_) (res : Int32)  (hF : fX5_areKin x1 x2 σ = some res) : ct_I l D (tysW cy) eX yX5_areKin wsX5_areKin rmX5_areKin [.ref (ad 28), .int x1, .int x2] (wX cy ad fad σ) res (wX cy ad fad σ) := by
  refine mt_I (by decide) rfl (Nat.le_of_ble_eq_true rfl) ?_
  intro p e s m args below meth c A Q C h0 hr
  replace C : vv_X p s m args meth c D (tysW cy) A 5 cX5_areKin RX5 wsX5_areKin := C
  replace hF : ((bn_ (fX5_farmAt x1 σ) fun r1 => (match r1 with | none => (bn_ (fX5_farmAt x2 σ) fun r3 => (match r3 with | none => some 0 | some i4 => some 0)) | some i2 => (bn_ (fX5_farmAt x2 σ) fun r5 => (match r5 with | none => some 0 | some i6 => (if (sF σ i2 0) = (sF σ i6 0) then some 1 else some 0))))) : Option Int32) = some res := hF
  refine vv_lv [0, 1, 2] (lv' := [(0, .ref (ad 28)), (1, .int x1), (2, .int x2)]) rfl ?_
  refine vv_aload_n C dX5_areKin_0 0 rfl ?_
  refine vv_iload_n C dX5_areKin_1 1 rfl ?_
  refine vv_callVq (fun r1 => Option.map fad r1) (fun r1 => (wX cy ad fad σ)) C eX_ok h0 [.int x1] [] 1 hF (fun r1 hr1 => kX5_farmAt l D cy ad fad x1 σ r1  hr1) gX5_areKin_X5_farmAt rfl rfl rfl (by decide +kernel) ⟨by decide, by decide⟩ 28 (wX_g28 cy ad fad _) rfl rfl rfl (Nat.le_of_ble_eq_true rfl) dX5_areKin_2 ⟨by decide, by decide⟩ (fun r1 hqr1 hF => ?_)
  have hqr1 := kX5_farmAt_lt hqr1
  cases r1 with
  | none =>
    try dsimp only at hF
    refine vv_astore_nN (lv' := [(3, .null), (0, .ref (ad 28)), (1, .int x1), (2, .int x2)]) C dX5_areKin_5 (by decide) rfl ?_
    refine vv_aload_n C dX5_areKin_6 1 rfl ?_
    refine vv_iload_n C dX5_areKin_7 3 rfl ?_
    refine vv_callVq (fun r3 => Option.map fad r3) (fun r3 => (wX cy ad fad σ)) C eX_ok h0 [.int x2] [] 1 hF (fun r3 hr3 => kX5_farmAt l D cy ad fad x2 σ r3  hr3) gX5_areKin_X5_farmAt rfl rfl rfl (by decide +kernel) ⟨by decide, by decide⟩ 28 (wX_g28 cy ad fad _) rfl rfl rfl (Nat.le_of_ble_eq_true rfl) dX5_areKin_8 ⟨by decide, by decide⟩ (fun r3 hqr3 hF => ?_)
    have hqr3 := kX5_farmAt_lt hqr3
    cases r3 with
    | none =>
      try dsimp only at hF
      refine vv_astoreN (lv' := [(4, .null), (3, .null), (0, .ref (ad 28)), (1, .int x1), (2, .int x2)]) C dX5_areKin_11 (by decide) rfl ?_
      refine vv_aload_nN C dX5_areKin_13 1 rfl ?_
      refine vv_ifnullN (tgt := 38) C dX5_areKin_14 (by decide) ?_
      refine vv_iconst (v := 0) C dX5_areKin_38 (by decide) ?_
      cases hF
      exact hr _ _ dX5_areKin_39 nb_Z0
    | some i4 =>
      try dsimp only at hF
      have hi4 := hqr3 i4 rfl
      refine vv_astore (lv' := [(4, .ref (fad i4)), (3, .null), (0, .ref (ad 28)), (1, .int x1), (2, .int x2)]) C dX5_areKin_11 (by decide) rfl ?_
      refine vv_aload_nN C dX5_areKin_13 1 rfl ?_
      refine vv_ifnullN (tgt := 38) C dX5_areKin_14 (by decide) ?_
      refine vv_iconst (v := 0) C dX5_areKin_38 (by decide) ?_
      cases hF
      exact hr _ _ dX5_areKin_39 nb_Z0
  | some i2 =>
    try dsimp only at hF
    have hi2 := hqr1 i2 rfl
    refine vv_astore_n (lv' := [(3, .ref (fad i2)), (0, .ref (ad 28)), (1, .int x1), (2, .int x2)]) C dX5_areKin_5 (by decide) rfl ?_
    refine vv_aload_n C dX5_areKin_6 1 rfl ?_
    refine vv_iload_n C dX5_areKin_7 3 rfl ?_
    refine vv_callVq (fun r5 => Option.map fad r5) (fun r5 => (wX cy ad fad σ)) C eX_ok h0 [.int x2] [] 1 hF (fun r5 hr5 => kX5_farmAt l D cy ad fad x2 σ r5  hr5) gX5_areKin_X5_farmAt rfl rfl rfl (by decide +kernel) ⟨by decide, by decide⟩ 28 (wX_g28 cy ad fad _) rfl rfl rfl (Nat.le_of_ble_eq_true rfl) dX5_areKin_8 ⟨by decide, by decide⟩ (fun r5 hqr5 hF => ?_)
    have hqr5 := kX5_farmAt_lt hqr5
    cases r5 with
    | none =>
      try dsimp only at hF
      refine vv_astoreN (lv' := [(4, .null), (3, .ref (fad i2)), (0, .ref (ad 28)), (1, .int x1), (2, .int x2)]) C dX5_areKin_11 (by decide) rfl ?_
      refine vv_aload_n C dX5_areKin_13 1 rfl ?_
      refine vv_ifnull C dX5_areKin_14 ?_
      refine vv_aloadN C dX5_areKin_17 0 rfl ?_
      refine vv_ifnullN (tgt := 38) C dX5_areKin_19 (by decide) ?_
      refine vv_iconst (v := 0) C dX5_areKin_38 (by decide) ?_
      cases hF
      exact hr _ _ dX5_areKin_39 nb_Z0
    | some i6 =>
      try dsimp only at hF
      have hi6 := hqr5 i6 rfl
      refine vv_astore (lv' := [(4, .ref (fad i6)), (3, .ref (fad i2)), (0, .ref (ad 28)), (1, .int x1), (2, .int x2)]) C dX5_areKin_11 (by decide) rfl ?_
      refine vv_aload_n C dX5_areKin_13 1 rfl ?_
      refine vv_ifnull C dX5_areKin_14 ?_
      refine vv_aload C dX5_areKin_17 0 rfl ?_
      refine vv_ifnull C dX5_areKin_19 ?_
      refine vv_aload_n C dX5_areKin_22 1 rfl ?_
      refine vv_get (v := .int (sF σ i2 0)) C (hi_X5_areKin_X0) (29 + i2) (wX_farm cy ad fad σ hi2) rfl 0 (by decide) (List.mem_of_getElem? (i := 1) rfl) rfl dX5_areKin_23 ?_
      refine vv_aload C dX5_areKin_26 0 rfl ?_
      refine vv_get (v := .int (sF σ i6 0)) C (hi_X5_areKin_X0) (29 + i6) (wX_farm cy ad fad σ hi6) rfl 0 (by decide) (List.mem_of_getElem? (i := 1) rfl) rfl dX5_areKin_28 ?_
      refine vv_icmp_ne (tgt := 38) C dX5_areKin_31 (by decide) hF (fun c7 hF => ?_) (fun c7 hF => ?_)
      · refine vv_iconst (v := 0) C dX5_areKin_38 (by decide) ?_
        cases hF
        exact hr _ _ dX5_areKin_39 nb_Z0
      · refine vv_iconst (v := 1) C dX5_areKin_34 (by decide) ?_
        refine vv_goto (tgt := 39) C dX5_areKin_35 (by decide) ?_
        cases hF
        exact hr _ _ dX5_areKin_39 nb_Z1
/-! X5_isBarred -/
abbrev rmX5_isBarred : Room := { frames := 4, cells := 0, slots := 0, locals := 87 }
theorem hi_X5_isBarred_X5 : ∀ w ∈ wsX50, w ∈ wsX5_isBarred := fun w h => List.mem_cons_of_mem _ (List.mem_append_left _ (List.mem_append_left _ (List.mem_append_right _ h)))
def fX5_isBarred_39 (σ : St_)  : Option Int32 := some 1
def fX5_isBarred (x1 : Int32) (x2 : Int32) (σ : St_) : Option Int32 := (bn_ (fX5_areKin x1 x2 σ) fun r1 => (if r1 = 0 then (bn_ (fX5_buysFrom x1 x2 σ) fun r2 => (if r2 = 0 then (bn_ (fX5_buysFrom x2 x1 σ) fun r3 => (if r3 = 0 then (bn_ (fX4_wasVisitor x1 x2 σ) fun r4 => (if r4 = 0 then some 0 else fX5_isBarred_39 σ  )) else fX5_isBarred_39 σ  )) else fX5_isBarred_39 σ  )) else fX5_isBarred_39 σ  ))
set_option maxHeartbeats 4000000 in
set_option maxRecDepth 20000 in
theorem vX5_isBarred_39 {p : Program} {l : Launch} {e : Env} {s : State} {m : MethodId} {args : Array Value} {below : List Frame} {meth : Method} {c : Code} {D : va_G} {A : Nat → Prop} {Q : State → Prop} {cy : Nat → ClassId} {ad fad : Nat → Nat} {σ : St_} {res : Int32} (C : vv_X p s m args meth c D (tysW cy) A 3 cX5_isBarred RX5 wsX5_isBarred) (h0 : eX A s) (hr : rt_I p l e rmX5_isBarred s m args below meth c D A 3 Q cX5_isBarred .boolean (wX cy ad fad σ) res) : fX5_isBarred_39 σ  = some res → vv_ p l e rmX5_isBarred s m args below meth c D A 3 Q 0 0 (wX cy ad fad σ) [] 39 [] := by
  intro  hF
  replace hF : (some 1 : Option Int32) = some res := hF
  refine vv_iconst (v := 1) C dX5_isBarred_39 (by decide) ?_
  refine vv_goto (tgt := 44) C dX5_isBarred_40 (by decide) ?_
  cases hF
  exact hr _ _ dX5_isBarred_44 nb_Z1
set_option maxHeartbeats 4000000 in
set_option maxRecDepth 20000 in
theorem kX5_isBarred (l : Launch) (D : va_G) (cy : Nat → ClassId) (ad fad : Nat → Nat) (x1 : Int32) (x2 : Int32) (σ : St_) (res : Int32)  (hF : fX5_isBarred x1 x2 σ = some res) : ct_I l D (tysW cy) eX yX5_isBarred wsX5_isBarred rmX5_isBarred [.ref (ad 28), .int x1, .int x2] (wX cy ad fad σ) res (wX cy ad fad σ) := by
  refine mt_I (by decide) rfl (Nat.le_of_ble_eq_true rfl) ?_
  intro p e s m args below meth c A Q C h0 hr
  replace C : vv_X p s m args meth c D (tysW cy) A 3 cX5_isBarred RX5 wsX5_isBarred := C
  replace hF : ((bn_ (fX5_areKin x1 x2 σ) fun r1 => (if r1 = 0 then (bn_ (fX5_buysFrom x1 x2 σ) fun r2 => (if r2 = 0 then (bn_ (fX5_buysFrom x2 x1 σ) fun r3 => (if r3 = 0 then (bn_ (fX4_wasVisitor x1 x2 σ) fun r4 => (if r4 = 0 then some 0 else fX5_isBarred_39 σ  )) else fX5_isBarred_39 σ  )) else fX5_isBarred_39 σ  )) else fX5_isBarred_39 σ  )) : Option Int32) = some res := hF
  refine vv_lv [0, 1, 2] (lv' := [(0, .ref (ad 28)), (1, .int x1), (2, .int x2)]) rfl ?_
  refine vv_aload_n C dX5_isBarred_0 0 rfl ?_
  refine vv_iload_n C dX5_isBarred_1 1 rfl ?_
  refine vv_iload_n C dX5_isBarred_2 2 rfl ?_
  refine vv_callVi (fun r1 => r1) (fun r1 => (wX cy ad fad σ)) C eX_ok h0 [.int x1, .int x2] [] 2 hF (fun r1 hr1 => kX5_areKin l D cy ad fad x1 x2 σ r1  hr1) gX5_isBarred_X5_areKin rfl rfl rfl (by decide +kernel) ⟨by decide, by decide⟩ 28 (wX_g28 cy ad fad _) rfl rfl rfl (Nat.le_of_ble_eq_true rfl) dX5_isBarred_3 ⟨by decide, by decide⟩ (fun r1 hqr1 hF => ?_)
  refine vv_if_ne (tgt := 39) C dX5_isBarred_6 (by decide) hF (fun c8 hF => ?_) (fun c8 hF => ?_)
  · refine vv_lv [] rfl ?_
    exact vX5_isBarred_39 C h0 hr    hF
  · refine vv_aload_n C dX5_isBarred_9 0 rfl ?_
    refine vv_iload_n C dX5_isBarred_10 1 rfl ?_
    refine vv_iload_n C dX5_isBarred_11 2 rfl ?_
    refine vv_callVi (fun r2 => r2) (fun r2 => (wX cy ad fad σ)) C eX_ok h0 [.int x1, .int x2] [] 2 hF (fun r2 hr2 => kX5_buysFrom l D cy ad fad x1 x2 σ r2  hr2) gX5_isBarred_X5_buysFrom rfl rfl rfl (by decide +kernel) ⟨by decide, by decide⟩ 28 (wX_g28 cy ad fad _) rfl rfl rfl (Nat.le_of_ble_eq_true rfl) dX5_isBarred_12 ⟨by decide, by decide⟩ (fun r2 hqr2 hF => ?_)
    refine vv_if_ne (tgt := 39) C dX5_isBarred_15 (by decide) hF (fun c7 hF => ?_) (fun c7 hF => ?_)
    · refine vv_lv [] rfl ?_
      exact vX5_isBarred_39 C h0 hr    hF
    · refine vv_aload_n C dX5_isBarred_18 0 rfl ?_
      refine vv_iload_n C dX5_isBarred_19 2 rfl ?_
      refine vv_iload_n C dX5_isBarred_20 1 rfl ?_
      refine vv_callVi (fun r3 => r3) (fun r3 => (wX cy ad fad σ)) C eX_ok h0 [.int x2, .int x1] [] 2 hF (fun r3 hr3 => kX5_buysFrom l D cy ad fad x2 x1 σ r3  hr3) gX5_isBarred_X5_buysFrom rfl rfl rfl (by decide +kernel) ⟨by decide, by decide⟩ 28 (wX_g28 cy ad fad _) rfl rfl rfl (Nat.le_of_ble_eq_true rfl) dX5_isBarred_21 ⟨by decide, by decide⟩ (fun r3 hqr3 hF => ?_)
      refine vv_if_ne (tgt := 39) C dX5_isBarred_24 (by decide) hF (fun c6 hF => ?_) (fun c6 hF => ?_)
      · refine vv_lv [] rfl ?_
        exact vX5_isBarred_39 C h0 hr    hF
      · refine vv_aload_n C dX5_isBarred_27 0 rfl ?_
        refine vv_get (v := .ref (ad 26)) C (hi_X5_isBarred_X5) 28 (wX_g28 cy ad fad _) rfl 2 (by decide) (List.mem_of_getElem? (i := 1) rfl) rfl dX5_isBarred_28 ?_
        refine vv_iload_n C dX5_isBarred_31 1 rfl ?_
        refine vv_iload_n C dX5_isBarred_32 2 rfl ?_
        refine vv_callVi (fun r4 => r4) (fun r4 => (wX cy ad fad σ)) C eX_ok h0 [.int x1, .int x2] [] 2 hF (fun r4 hr4 => kX4_wasVisitor l D cy ad fad x1 x2 σ r4  hr4) gX5_isBarred_X4_wasVisitor rfl rfl rfl (by decide +kernel) ⟨by decide, by decide⟩ 26 (wX_g26 cy ad fad _) rfl rfl rfl (Nat.le_of_ble_eq_true rfl) dX5_isBarred_33 ⟨by decide, by decide⟩ (fun r4 hqr4 hF => ?_)
        refine vv_if_eq (tgt := 43) C dX5_isBarred_36 (by decide) hF (fun c5 hF => ?_) (fun c5 hF => ?_)
        · refine vv_iconst (v := 0) C dX5_isBarred_43 (by decide) ?_
          cases hF
          exact hr _ _ dX5_isBarred_44 nb_Z0
        · refine vv_lv [] rfl ?_
          exact vX5_isBarred_39 C h0 hr    hF
/-! X5_weightOf -/
abbrev rmX5_weightOf : Room := { frames := 1, cells := 0, slots := 0, locals := 21 }
theorem hi_X5_weightOf_X5 : ∀ w ∈ wsX50, w ∈ wsX5_weightOf := fun w h => List.mem_cons_of_mem _ (List.mem_append_right _ h)
def fX5_weightOf_27 (σ : St_) (k4 : Int32 → Int32 → Int32 → Option Int32) (x1 : Int32) (x2 : Int32) (x3 : Int32) : Option Int32 := k4 x1 x2 (x3 + 1)
def fX5_weightOf_4 (σ : St_) : Nat → Int32 → Int32 → Int32 → Option Int32
  | 0, _, _, _ => none
  | n + 1, x1, x2, x3 => (if 8 ≤ x3 then some x2 else (bn_ (fX5_hasBit x1 x3) fun r1 => (if r1 = 0 then fX5_weightOf_27 σ (fX5_weightOf_4 σ  n) x1 x2 x3 else (gd_ x3 8 fun j2 => fX5_weightOf_27 σ (fX5_weightOf_4 σ  n) x1 (x2 + (sM σ 11 j2)) x3))))
def fX5_weightOf (x1 : Int32) (σ : St_) : Option Int32 := fX5_weightOf_4 σ  FU_ x1 0 0
set_option maxHeartbeats 4000000 in
set_option maxRecDepth 20000 in
theorem vX5_weightOf_27 {p : Program} {l : Launch} {e : Env} {s : State} {m : MethodId} {args : Array Value} {below : List Frame} {meth : Method} {c : Code} {D : va_G} {A : Nat → Prop} {Q : State → Prop} {cy : Nat → ClassId} {ad fad : Nat → Nat} {k4 : Int32 → Int32 → Int32 → Option Int32} {σ : St_} {res : Int32} (C : vv_X p s m args meth c D (tysW cy) A 4 cX5_weightOf RX5 wsX5_weightOf) (h0 : eX A s) (hr : rt_I p l e rmX5_weightOf s m args below meth c D A 4 Q cX5_weightOf .int (wX cy ad fad σ) res) (hk4 : ∀ (x1 : Int32) (x2 : Int32) (x3 : Int32), k4 x1 x2 x3 = some res → vv_ p l e rmX5_weightOf s m args below meth c D A 4 Q 0 0 (wX cy ad fad σ) [(0, .ref (ad 28)), (1, .int x1), (2, .int x2), (3, .int x3)] 4 []) : ∀ (x1 : Int32) (x2 : Int32) (x3 : Int32), fX5_weightOf_27 σ k4 x1 x2 x3 = some res → vv_ p l e rmX5_weightOf s m args below meth c D A 4 Q 0 0 (wX cy ad fad σ) [(0, .ref (ad 28)), (1, .int x1), (2, .int x2), (3, .int x3)] 27 [] := by
  intro x1 x2 x3 hF
  replace hF : (k4 x1 x2 (x3 + 1) : Option Int32) = some res := hF
  refine vv_iinc (q := 3) (v := x3 + 1) (lv' := [(3, .int (x3 + 1)), (0, .ref (ad 28)), (1, .int x1), (2, .int x2)]) C dX5_weightOf_27 rfl rfl (by decide) rfl ?_
  refine vv_goto (tgt := 4) C dX5_weightOf_30 (by decide) ?_
  refine vv_lv [1, 2, 3, 0] rfl ?_
  exact hk4 x1 x2 (x3 + 1)  hF
set_option maxHeartbeats 4000000 in
set_option maxRecDepth 20000 in
theorem vX5_weightOf_4 {p : Program} {l : Launch} {e : Env} {s : State} {m : MethodId} {args : Array Value} {below : List Frame} {meth : Method} {c : Code} {D : va_G} {A : Nat → Prop} {Q : State → Prop} {cy : Nat → ClassId} {ad fad : Nat → Nat} {σ : St_} {res : Int32} (C : vv_X p s m args meth c D (tysW cy) A 4 cX5_weightOf RX5 wsX5_weightOf) (h0 : eX A s) (hr : rt_I p l e rmX5_weightOf s m args below meth c D A 4 Q cX5_weightOf .int (wX cy ad fad σ) res) : ∀ (n : Nat) (x1 : Int32) (x2 : Int32) (x3 : Int32), fX5_weightOf_4 σ  n x1 x2 x3 = some res → vv_ p l e rmX5_weightOf s m args below meth c D A 4 Q 0 0 (wX cy ad fad σ) [(0, .ref (ad 28)), (1, .int x1), (2, .int x2), (3, .int x3)] 4 [] := by
  intro n
  induction n with
  | zero =>
    intro x1 x2 x3 hF
    cases (show none = some res from hF)
  | succ n ih =>
    intro x1 x2 x3 hF
    replace hF : ((if 8 ≤ x3 then some x2 else (bn_ (fX5_hasBit x1 x3) fun r1 => (if r1 = 0 then fX5_weightOf_27 σ (fX5_weightOf_4 σ  n) x1 x2 x3 else (gd_ x3 8 fun j2 => fX5_weightOf_27 σ (fX5_weightOf_4 σ  n) x1 (x2 + (sM σ 11 j2)) x3)))) : Option Int32) = some res := hF
    refine vv_iload_n C dX5_weightOf_4 3 rfl ?_
    refine vv_bipush (v := 8) C dX5_weightOf_5 (by decide) ?_
    refine vv_icmp_ge (tgt := 33) C dX5_weightOf_7 (by decide) hF (fun c4 hF => ?_) (fun c4 hF => ?_)
    · refine vv_iload_n C dX5_weightOf_33 2 rfl ?_
      cases hF
      exact hr _ _ dX5_weightOf_34 rfl
    · refine vv_iload_n C dX5_weightOf_10 1 rfl ?_
      refine vv_iload_n C dX5_weightOf_11 3 rfl ?_
      refine vv_callSi (fun r1 => r1) (fun r1 => (wX cy ad fad σ)) C eX_ok h0 [.int x1, .int x3] [] 2 hF (fun r1 hr1 => kX5_hasBit l D (tysW cy) eX_ok (wX cy ad fad σ) x1 x3 r1  hr1) gX5_weightOf_X5_hasBit rfl rfl rfl (by decide +kernel) ⟨by decide, by decide⟩ rfl rfl (Nat.le_of_ble_eq_true rfl) dX5_weightOf_12 ⟨by decide, by decide⟩ (fun r1 hqr1 hF => ?_)
      refine vv_if_eq (tgt := 27) C dX5_weightOf_15 (by decide) hF (fun c3 hF => ?_) (fun c3 hF => ?_)
      · refine vv_lv [0, 1, 2, 3] rfl ?_
        exact vX5_weightOf_27 C h0 hr (ih) x1 x2 x3  hF
      · refine vv_iload_n C dX5_weightOf_18 2 rfl ?_
        refine vv_aload_n C dX5_weightOf_19 0 rfl ?_
        refine vv_get (v := .ref (ad 11)) C (hi_X5_weightOf_X5) 28 (wX_g28 cy ad fad _) rfl 6 (by decide) (List.mem_of_getElem? (i := 1) rfl) rfl dX5_weightOf_20 ?_
        refine vv_iload_n C dX5_weightOf_23 3 rfl ?_
        refine vv_iald C 11 0 (wX_g11 cy ad fad _) (tysW_0 cy) hF dX5_weightOf_24 (fun j2 hj2 hF => ?_)
        refine vv_iadd C dX5_weightOf_25 ?_
        refine vv_istore_n (lv' := [(2, .int (x2 + (sM σ 11 j2))), (0, .ref (ad 28)), (1, .int x1), (3, .int x3)]) C dX5_weightOf_26 (by decide) rfl ?_
        refine vv_lv [1, 2, 0, 3] rfl ?_
        exact vX5_weightOf_27 C h0 hr (ih) x1 (x2 + (sM σ 11 j2)) x3  hF
set_option maxHeartbeats 4000000 in
set_option maxRecDepth 20000 in
theorem kX5_weightOf (l : Launch) (D : va_G) (cy : Nat → ClassId) (ad fad : Nat → Nat) (x1 : Int32) (σ : St_) (res : Int32)  (hF : fX5_weightOf x1 σ = some res) : ct_I l D (tysW cy) eX yX5_weightOf wsX5_weightOf rmX5_weightOf [.ref (ad 28), .int x1] (wX cy ad fad σ) res (wX cy ad fad σ) := by
  refine mt_I (by decide) rfl (Nat.le_of_ble_eq_true rfl) ?_
  intro p e s m args below meth c A Q C h0 hr
  replace C : vv_X p s m args meth c D (tysW cy) A 4 cX5_weightOf RX5 wsX5_weightOf := C
  replace hF : (fX5_weightOf_4 σ  FU_ x1 0 0 : Option Int32) = some res := hF
  refine vv_lv [0, 1] (lv' := [(0, .ref (ad 28)), (1, .int x1)]) rfl ?_
  refine vv_iconst (v := 0) C dX5_weightOf_0 (by decide) ?_
  refine vv_istore_n (lv' := [(2, .int 0), (0, .ref (ad 28)), (1, .int x1)]) C dX5_weightOf_1 (by decide) rfl ?_
  refine vv_iconst (v := 0) C dX5_weightOf_2 (by decide) ?_
  refine vv_istore_n (lv' := [(3, .int 0), (2, .int 0), (0, .ref (ad 28)), (1, .int x1)]) C dX5_weightOf_3 (by decide) rfl ?_
  refine vv_lv [2, 3, 1, 0] rfl ?_
  exact vX5_weightOf_4 C h0 hr  FU_ x1 0 0  hF
/-! X5_countSeals -/
abbrev rmX5_countSeals : Room := { frames := 3, cells := 0, slots := 0, locals := 63 }
theorem hi_X5_countSeals_X0 : ∀ w ∈ wsX00, w ∈ wsX5_countSeals := fun w h => List.mem_cons_of_mem _ (List.mem_append_right _ h)
theorem hi_X5_countSeals_X5 : ∀ w ∈ wsX50, w ∈ wsX5_countSeals := fun w h => List.mem_cons_of_mem _ (List.mem_append_left _ (List.mem_append_right _ h))
def fX5_countSeals_32 (σ : St_) (k4 : Int32 → Int32 → Option Int32) (x1 : Int32) (x2 : Int32) : Option Int32 := k4 x1 (x2 + 1)
def fX5_countSeals_4 (σ : St_) : Nat → Int32 → Int32 → Option Int32
  | 0, _, _ => none
  | n + 1, x1, x2 => (if (sS σ 5) ≤ x2 then some x1 else (bn_ (fX5_farmAt x2 σ) fun r1 => (match r1 with | none => fX5_countSeals_32 σ (fX5_countSeals_4 σ  n) x1 x2 | some i2 => (if (sF σ i2 2) = 0 then fX5_countSeals_32 σ (fX5_countSeals_4 σ  n) x1 x2 else fX5_countSeals_32 σ (fX5_countSeals_4 σ  n) (x1 + 1) x2))))
def fX5_countSeals (σ : St_) : Option Int32 := fX5_countSeals_4 σ  FU_ 0 0
set_option maxHeartbeats 4000000 in
set_option maxRecDepth 20000 in
theorem vX5_countSeals_32 {p : Program} {l : Launch} {e : Env} {s : State} {m : MethodId} {args : Array Value} {below : List Frame} {meth : Method} {c : Code} {D : va_G} {A : Nat → Prop} {Q : State → Prop} {cy : Nat → ClassId} {ad fad : Nat → Nat} {k4 : Int32 → Int32 → Option Int32} {σ : St_} {res : Int32} (C : vv_X p s m args meth c D (tysW cy) A 4 cX5_countSeals RX5 wsX5_countSeals) (h0 : eX A s) (hr : rt_I p l e rmX5_countSeals s m args below meth c D A 4 Q cX5_countSeals .int (wX cy ad fad σ) res) (hk4 : ∀ (x1 : Int32) (x2 : Int32), k4 x1 x2 = some res → vv_ p l e rmX5_countSeals s m args below meth c D A 4 Q 0 0 (wX cy ad fad σ) [(0, .ref (ad 28)), (1, .int x1), (2, .int x2)] 4 []) : ∀ (x1 : Int32) (x2 : Int32), fX5_countSeals_32 σ k4 x1 x2 = some res → vv_ p l e rmX5_countSeals s m args below meth c D A 4 Q 0 0 (wX cy ad fad σ) [(0, .ref (ad 28)), (1, .int x1), (2, .int x2)] 32 [] := by
  intro x1 x2 hF
  replace hF : (k4 x1 (x2 + 1) : Option Int32) = some res := hF
  refine vv_iinc (q := 2) (v := x2 + 1) (lv' := [(2, .int (x2 + 1)), (0, .ref (ad 28)), (1, .int x1)]) C dX5_countSeals_32 rfl rfl (by decide) rfl ?_
  refine vv_goto (tgt := 4) C dX5_countSeals_35 (by decide) ?_
  refine vv_lv [1, 2, 0] rfl ?_
  exact hk4 x1 (x2 + 1)  hF
set_option maxHeartbeats 4000000 in
set_option maxRecDepth 20000 in
theorem vX5_countSeals_4 {p : Program} {l : Launch} {e : Env} {s : State} {m : MethodId} {args : Array Value} {below : List Frame} {meth : Method} {c : Code} {D : va_G} {A : Nat → Prop} {Q : State → Prop} {cy : Nat → ClassId} {ad fad : Nat → Nat} {σ : St_} {res : Int32} (C : vv_X p s m args meth c D (tysW cy) A 4 cX5_countSeals RX5 wsX5_countSeals) (h0 : eX A s) (hr : rt_I p l e rmX5_countSeals s m args below meth c D A 4 Q cX5_countSeals .int (wX cy ad fad σ) res) : ∀ (n : Nat) (x1 : Int32) (x2 : Int32), fX5_countSeals_4 σ  n x1 x2 = some res → vv_ p l e rmX5_countSeals s m args below meth c D A 4 Q 0 0 (wX cy ad fad σ) [(0, .ref (ad 28)), (1, .int x1), (2, .int x2)] 4 [] := by
  intro n
  induction n with
  | zero =>
    intro x1 x2 hF
    cases (show none = some res from hF)
  | succ n ih =>
    intro x1 x2 hF
    replace hF : ((if (sS σ 5) ≤ x2 then some x1 else (bn_ (fX5_farmAt x2 σ) fun r1 => (match r1 with | none => fX5_countSeals_32 σ (fX5_countSeals_4 σ  n) x1 x2 | some i2 => (if (sF σ i2 2) = 0 then fX5_countSeals_32 σ (fX5_countSeals_4 σ  n) x1 x2 else fX5_countSeals_32 σ (fX5_countSeals_4 σ  n) (x1 + 1) x2)))) : Option Int32) = some res := hF
    refine vv_iload_n C dX5_countSeals_4 2 rfl ?_
    refine vv_aload_n C dX5_countSeals_5 0 rfl ?_
    refine vv_get (v := .int (sS σ 5)) C (hi_X5_countSeals_X5) 28 (wX_g28 cy ad fad _) rfl 7 (by decide) (List.mem_of_getElem? (i := 1) rfl) rfl dX5_countSeals_6 ?_
    refine vv_icmp_ge (tgt := 38) C dX5_countSeals_9 (by decide) hF (fun c4 hF => ?_) (fun c4 hF => ?_)
    · refine vv_iload_n C dX5_countSeals_38 1 rfl ?_
      cases hF
      exact hr _ _ dX5_countSeals_39 rfl
    · refine vv_aload_n C dX5_countSeals_12 0 rfl ?_
      refine vv_iload_n C dX5_countSeals_13 2 rfl ?_
      refine vv_callVq (fun r1 => Option.map fad r1) (fun r1 => (wX cy ad fad σ)) C eX_ok h0 [.int x2] [] 1 hF (fun r1 hr1 => kX5_farmAt l D cy ad fad x2 σ r1  hr1) gX5_countSeals_X5_farmAt rfl rfl rfl (by decide +kernel) ⟨by decide, by decide⟩ 28 (wX_g28 cy ad fad _) rfl rfl rfl (Nat.le_of_ble_eq_true rfl) dX5_countSeals_14 ⟨by decide, by decide⟩ (fun r1 hqr1 hF => ?_)
      have hqr1 := kX5_farmAt_lt hqr1
      cases r1 with
      | none =>
        try dsimp only at hF
        refine vv_astore_nN (lv' := [(3, .null), (0, .ref (ad 28)), (1, .int x1), (2, .int x2)]) C dX5_countSeals_17 (by decide) rfl ?_
        refine vv_aload_nN C dX5_countSeals_18 0 rfl ?_
        refine vv_ifnullN (tgt := 32) C dX5_countSeals_19 (by decide) ?_
        refine vv_lv [1, 2, 3] rfl ?_
        exact vX5_countSeals_32 C h0 hr (ih) x1 x2  hF
      | some i2 =>
        try dsimp only at hF
        have hi2 := hqr1 i2 rfl
        refine vv_astore_n (lv' := [(3, .ref (fad i2)), (0, .ref (ad 28)), (1, .int x1), (2, .int x2)]) C dX5_countSeals_17 (by decide) rfl ?_
        refine vv_aload_n C dX5_countSeals_18 0 rfl ?_
        refine vv_ifnull C dX5_countSeals_19 ?_
        refine vv_aload_n C dX5_countSeals_22 0 rfl ?_
        refine vv_get (v := .int (sF σ i2 2)) C (hi_X5_countSeals_X0) (29 + i2) (wX_farm cy ad fad σ hi2) rfl 2 (by decide) (List.mem_of_getElem? (i := 2) rfl) rfl dX5_countSeals_23 ?_
        refine vv_if_eq (tgt := 32) C dX5_countSeals_26 (by decide) hF (fun c3 hF => ?_) (fun c3 hF => ?_)
        · refine vv_lv [1, 2, 3] rfl ?_
          exact vX5_countSeals_32 C h0 hr (ih) x1 x2  hF
        · refine vv_iinc (q := 2) (v := x1 + 1) (lv' := [(1, .int (x1 + 1)), (3, .ref (fad i2)), (0, .ref (ad 28)), (2, .int x2)]) C dX5_countSeals_29 rfl rfl (by decide) rfl ?_
          refine vv_lv [2, 0, 3] rfl ?_
          exact vX5_countSeals_32 C h0 hr (ih) (x1 + 1) x2  hF
set_option maxHeartbeats 4000000 in
set_option maxRecDepth 20000 in
theorem kX5_countSeals (l : Launch) (D : va_G) (cy : Nat → ClassId) (ad fad : Nat → Nat) (σ : St_) (res : Int32)  (hF : fX5_countSeals σ = some res) : ct_I l D (tysW cy) eX yX5_countSeals wsX5_countSeals rmX5_countSeals [.ref (ad 28)] (wX cy ad fad σ) res (wX cy ad fad σ) := by
  refine mt_I (by decide) rfl (Nat.le_of_ble_eq_true rfl) ?_
  intro p e s m args below meth c A Q C h0 hr
  replace C : vv_X p s m args meth c D (tysW cy) A 4 cX5_countSeals RX5 wsX5_countSeals := C
  replace hF : (fX5_countSeals_4 σ  FU_ 0 0 : Option Int32) = some res := hF
  refine vv_lv [0] (lv' := [(0, .ref (ad 28))]) rfl ?_
  refine vv_iconst (v := 0) C dX5_countSeals_0 (by decide) ?_
  refine vv_istore_n (lv' := [(1, .int 0), (0, .ref (ad 28))]) C dX5_countSeals_1 (by decide) rfl ?_
  refine vv_iconst (v := 0) C dX5_countSeals_2 (by decide) ?_
  refine vv_istore_n (lv' := [(2, .int 0), (1, .int 0), (0, .ref (ad 28))]) C dX5_countSeals_3 (by decide) rfl ?_
  refine vv_lv [2, 1, 0] rfl ?_
  exact vX5_countSeals_4 C h0 hr  FU_ 0 0  hF
/-! X5_countOut -/
abbrev rmX5_countOut : Room := { frames := 3, cells := 0, slots := 0, locals := 63 }
theorem hi_X5_countOut_X5 : ∀ w ∈ wsX50, w ∈ wsX5_countOut := fun w h => List.mem_cons_of_mem _ (List.mem_append_left _ (List.mem_append_right _ h))
def fX5_countOut_32 (σ : St_) (k4 : Int32 → Int32 → Option Int32) (x1 : Int32) (x2 : Int32) : Option Int32 := k4 x1 (x2 + 1)
def fX5_countOut_4 (σ : St_) : Nat → Int32 → Int32 → Option Int32
  | 0, _, _ => none
  | n + 1, x1, x2 => (if (sS σ 5) ≤ x2 then some x1 else (bn_ (fX5_farmAt x2 σ) fun r1 => (match r1 with | none => fX5_countOut_32 σ (fX5_countOut_4 σ  n) x1 x2 | some i2 => (bn_ (fX0_isOut i2 σ) fun r3 => (if r3 = 0 then fX5_countOut_32 σ (fX5_countOut_4 σ  n) x1 x2 else fX5_countOut_32 σ (fX5_countOut_4 σ  n) (x1 + 1) x2)))))
def fX5_countOut (σ : St_) : Option Int32 := fX5_countOut_4 σ  FU_ 0 0
set_option maxHeartbeats 4000000 in
set_option maxRecDepth 20000 in
theorem vX5_countOut_32 {p : Program} {l : Launch} {e : Env} {s : State} {m : MethodId} {args : Array Value} {below : List Frame} {meth : Method} {c : Code} {D : va_G} {A : Nat → Prop} {Q : State → Prop} {cy : Nat → ClassId} {ad fad : Nat → Nat} {k4 : Int32 → Int32 → Option Int32} {σ : St_} {res : Int32} (C : vv_X p s m args meth c D (tysW cy) A 4 cX5_countOut RX5 wsX5_countOut) (h0 : eX A s) (hr : rt_I p l e rmX5_countOut s m args below meth c D A 4 Q cX5_countOut .int (wX cy ad fad σ) res) (hk4 : ∀ (x1 : Int32) (x2 : Int32), k4 x1 x2 = some res → vv_ p l e rmX5_countOut s m args below meth c D A 4 Q 0 0 (wX cy ad fad σ) [(0, .ref (ad 28)), (1, .int x1), (2, .int x2)] 4 []) : ∀ (x1 : Int32) (x2 : Int32), fX5_countOut_32 σ k4 x1 x2 = some res → vv_ p l e rmX5_countOut s m args below meth c D A 4 Q 0 0 (wX cy ad fad σ) [(0, .ref (ad 28)), (1, .int x1), (2, .int x2)] 32 [] := by
  intro x1 x2 hF
  replace hF : (k4 x1 (x2 + 1) : Option Int32) = some res := hF
  refine vv_iinc (q := 2) (v := x2 + 1) (lv' := [(2, .int (x2 + 1)), (0, .ref (ad 28)), (1, .int x1)]) C dX5_countOut_32 rfl rfl (by decide) rfl ?_
  refine vv_goto (tgt := 4) C dX5_countOut_35 (by decide) ?_
  refine vv_lv [1, 2, 0] rfl ?_
  exact hk4 x1 (x2 + 1)  hF
set_option maxHeartbeats 4000000 in
set_option maxRecDepth 20000 in
theorem vX5_countOut_4 {p : Program} {l : Launch} {e : Env} {s : State} {m : MethodId} {args : Array Value} {below : List Frame} {meth : Method} {c : Code} {D : va_G} {A : Nat → Prop} {Q : State → Prop} {cy : Nat → ClassId} {ad fad : Nat → Nat} {σ : St_} {res : Int32} (C : vv_X p s m args meth c D (tysW cy) A 4 cX5_countOut RX5 wsX5_countOut) (h0 : eX A s) (hr : rt_I p l e rmX5_countOut s m args below meth c D A 4 Q cX5_countOut .int (wX cy ad fad σ) res) : ∀ (n : Nat) (x1 : Int32) (x2 : Int32), fX5_countOut_4 σ  n x1 x2 = some res → vv_ p l e rmX5_countOut s m args below meth c D A 4 Q 0 0 (wX cy ad fad σ) [(0, .ref (ad 28)), (1, .int x1), (2, .int x2)] 4 [] := by
  intro n
  induction n with
  | zero =>
    intro x1 x2 hF
    cases (show none = some res from hF)
  | succ n ih =>
    intro x1 x2 hF
    replace hF : ((if (sS σ 5) ≤ x2 then some x1 else (bn_ (fX5_farmAt x2 σ) fun r1 => (match r1 with | none => fX5_countOut_32 σ (fX5_countOut_4 σ  n) x1 x2 | some i2 => (bn_ (fX0_isOut i2 σ) fun r3 => (if r3 = 0 then fX5_countOut_32 σ (fX5_countOut_4 σ  n) x1 x2 else fX5_countOut_32 σ (fX5_countOut_4 σ  n) (x1 + 1) x2))))) : Option Int32) = some res := hF
    refine vv_iload_n C dX5_countOut_4 2 rfl ?_
    refine vv_aload_n C dX5_countOut_5 0 rfl ?_
    refine vv_get (v := .int (sS σ 5)) C (hi_X5_countOut_X5) 28 (wX_g28 cy ad fad _) rfl 7 (by decide) (List.mem_of_getElem? (i := 1) rfl) rfl dX5_countOut_6 ?_
    refine vv_icmp_ge (tgt := 38) C dX5_countOut_9 (by decide) hF (fun c5 hF => ?_) (fun c5 hF => ?_)
    · refine vv_iload_n C dX5_countOut_38 1 rfl ?_
      cases hF
      exact hr _ _ dX5_countOut_39 rfl
    · refine vv_aload_n C dX5_countOut_12 0 rfl ?_
      refine vv_iload_n C dX5_countOut_13 2 rfl ?_
      refine vv_callVq (fun r1 => Option.map fad r1) (fun r1 => (wX cy ad fad σ)) C eX_ok h0 [.int x2] [] 1 hF (fun r1 hr1 => kX5_farmAt l D cy ad fad x2 σ r1  hr1) gX5_countOut_X5_farmAt rfl rfl rfl (by decide +kernel) ⟨by decide, by decide⟩ 28 (wX_g28 cy ad fad _) rfl rfl rfl (Nat.le_of_ble_eq_true rfl) dX5_countOut_14 ⟨by decide, by decide⟩ (fun r1 hqr1 hF => ?_)
      have hqr1 := kX5_farmAt_lt hqr1
      cases r1 with
      | none =>
        try dsimp only at hF
        refine vv_astore_nN (lv' := [(3, .null), (0, .ref (ad 28)), (1, .int x1), (2, .int x2)]) C dX5_countOut_17 (by decide) rfl ?_
        refine vv_aload_nN C dX5_countOut_18 0 rfl ?_
        refine vv_ifnullN (tgt := 32) C dX5_countOut_19 (by decide) ?_
        refine vv_lv [1, 2, 3] rfl ?_
        exact vX5_countOut_32 C h0 hr (ih) x1 x2  hF
      | some i2 =>
        try dsimp only at hF
        have hi2 := hqr1 i2 rfl
        refine vv_astore_n (lv' := [(3, .ref (fad i2)), (0, .ref (ad 28)), (1, .int x1), (2, .int x2)]) C dX5_countOut_17 (by decide) rfl ?_
        refine vv_aload_n C dX5_countOut_18 0 rfl ?_
        refine vv_ifnull C dX5_countOut_19 ?_
        refine vv_aload_n C dX5_countOut_22 0 rfl ?_
        refine vv_callVi (fun r3 => r3) (fun r3 => (wX cy ad fad σ)) C eX_ok h0 [] [] 0 hF (fun r3 hr3 => kX0_isOut l D cy ad fad i2 σ r3 hi2 hr3) gX5_countOut_X0_isOut rfl rfl rfl (by decide +kernel) ⟨by decide, by decide⟩ (29 + i2) (wX_farm cy ad fad σ hi2) rfl rfl rfl (Nat.le_of_ble_eq_true rfl) dX5_countOut_23 ⟨by decide, by decide⟩ (fun r3 hqr3 hF => ?_)
        refine vv_if_eq (tgt := 32) C dX5_countOut_26 (by decide) hF (fun c4 hF => ?_) (fun c4 hF => ?_)
        · refine vv_lv [1, 2, 3] rfl ?_
          exact vX5_countOut_32 C h0 hr (ih) x1 x2  hF
        · refine vv_iinc (q := 2) (v := x1 + 1) (lv' := [(1, .int (x1 + 1)), (3, .ref (fad i2)), (0, .ref (ad 28)), (2, .int x2)]) C dX5_countOut_29 rfl rfl (by decide) rfl ?_
          refine vv_lv [2, 0, 3] rfl ?_
          exact vX5_countOut_32 C h0 hr (ih) (x1 + 1) x2  hF
set_option maxHeartbeats 4000000 in
set_option maxRecDepth 20000 in
theorem kX5_countOut (l : Launch) (D : va_G) (cy : Nat → ClassId) (ad fad : Nat → Nat) (σ : St_) (res : Int32)  (hF : fX5_countOut σ = some res) : ct_I l D (tysW cy) eX yX5_countOut wsX5_countOut rmX5_countOut [.ref (ad 28)] (wX cy ad fad σ) res (wX cy ad fad σ) := by
  refine mt_I (by decide) rfl (Nat.le_of_ble_eq_true rfl) ?_
  intro p e s m args below meth c A Q C h0 hr
  replace C : vv_X p s m args meth c D (tysW cy) A 4 cX5_countOut RX5 wsX5_countOut := C
  replace hF : (fX5_countOut_4 σ  FU_ 0 0 : Option Int32) = some res := hF
  refine vv_lv [0] (lv' := [(0, .ref (ad 28))]) rfl ?_
  refine vv_iconst (v := 0) C dX5_countOut_0 (by decide) ?_
  refine vv_istore_n (lv' := [(1, .int 0), (0, .ref (ad 28))]) C dX5_countOut_1 (by decide) rfl ?_
  refine vv_iconst (v := 0) C dX5_countOut_2 (by decide) ?_
  refine vv_istore_n (lv' := [(2, .int 0), (1, .int 0), (0, .ref (ad 28))]) C dX5_countOut_3 (by decide) rfl ?_
  refine vv_lv [2, 1, 0] rfl ?_
  exact vX5_countOut_4 C h0 hr  FU_ 0 0  hF
/-! X5_feed -/
abbrev rmX5_feed : Room := { frames := 2, cells := 0, slots := 0, locals := 43 }
theorem hi_X5_feed_X5 : ∀ w ∈ wsX50, w ∈ wsX5_feed := fun w h => List.mem_cons_of_mem _ (List.mem_append_left _ (List.mem_append_right _ h))
def fX5_feed (x1 : Int32) (x2 : Int32) (x3 : Int32) (x4 : Int32) (x5 : Int32) (σ : St_) : Option (Int32 × St_) := (bn_ (fX3_takesFeed σ) fun r1 => (if r1 = 0 then some ((-1), σ) else (bn_ (fX3_put x1 σ) fun r2 => (bn_ (fX3_put x2 r2) fun r3 => (bn_ (fX3_put x3 r3) fun r4 => (bn_ (fX3_put x4 r4) fun r5 => (bn_ (fX3_put x5 r5) fun r6 => (bn_ (fX3_size r6) fun r7 => some (r7, r6)))))))))
set_option maxHeartbeats 4000000 in
set_option maxRecDepth 20000 in
theorem kX5_feed (l : Launch) (D : va_G) (cy : Nat → ClassId) (ad fad : Nat → Nat) (x1 : Int32) (x2 : Int32) (x3 : Int32) (x4 : Int32) (x5 : Int32) (σ : St_) (res : Int32 × St_)  (hF : fX5_feed x1 x2 x3 x4 x5 σ = some res) : ct_I l D (tysW cy) eX yX5_feed wsX5_feed rmX5_feed [.ref (ad 28), .int x1, .int x2, .int x3, .int x4, .int x5] (wX cy ad fad σ) res.1 (wX cy ad fad res.2) := by
  refine mt_I (by decide) rfl (Nat.le_of_ble_eq_true rfl) ?_
  intro p e s m args below meth c A Q C h0 hr
  replace C : vv_X p s m args meth c D (tysW cy) A 6 cX5_feed RX5 wsX5_feed := C
  replace hF : ((bn_ (fX3_takesFeed σ) fun r1 => (if r1 = 0 then some ((-1), σ) else (bn_ (fX3_put x1 σ) fun r2 => (bn_ (fX3_put x2 r2) fun r3 => (bn_ (fX3_put x3 r3) fun r4 => (bn_ (fX3_put x4 r4) fun r5 => (bn_ (fX3_put x5 r5) fun r6 => (bn_ (fX3_size r6) fun r7 => some (r7, r6))))))))) : Option (Int32 × St_)) = some res := hF
  refine vv_lv [0, 1, 2, 3, 4, 5] (lv' := [(0, .ref (ad 28)), (1, .int x1), (2, .int x2), (3, .int x3), (4, .int x4), (5, .int x5)]) rfl ?_
  refine vv_aload_n C dX5_feed_0 0 rfl ?_
  refine vv_get (v := .ref (ad 24)) C (hi_X5_feed_X5) 28 (wX_g28 cy ad fad _) rfl 0 (by decide) (List.mem_of_getElem? (i := 1) rfl) rfl dX5_feed_1 ?_
  refine vv_callVi (fun r1 => r1) (fun r1 => (wX cy ad fad σ)) C eX_ok h0 [] [] 0 hF (fun r1 hr1 => kX3_takesFeed l D cy ad fad σ r1  hr1) gX5_feed_X3_takesFeed rfl rfl rfl (by decide +kernel) ⟨by decide, by decide⟩ 24 (wX_g24 cy ad fad _) rfl rfl rfl (Nat.le_of_ble_eq_true rfl) dX5_feed_4 ⟨by decide, by decide⟩ (fun r1 hqr1 hF => ?_)
  refine vv_if_ne (tgt := 12) C dX5_feed_7 (by decide) hF (fun c8 hF => ?_) (fun c8 hF => ?_)
  · refine vv_aload_n C dX5_feed_12 0 rfl ?_
    refine vv_get (v := .ref (ad 24)) C (hi_X5_feed_X5) 28 (wX_g28 cy ad fad _) rfl 0 (by decide) (List.mem_of_getElem? (i := 1) rfl) rfl dX5_feed_13 ?_
    refine vv_iload_n C dX5_feed_16 1 rfl ?_
    refine vv_callVv  (fun r2 => (wX cy ad fad r2)) C eX_ok h0 [.int x1] [] 1 hF (fun r2 hr2 => kX3_put l D cy ad fad x1 σ r2  hr2) gX5_feed_X3_put rfl rfl rfl (by decide +kernel) ⟨by decide, by decide⟩ 24 (wX_g24 cy ad fad _) rfl rfl rfl (Nat.le_of_ble_eq_true rfl) dX5_feed_17 ⟨by decide, by decide⟩ (fun r2 hqr2 hF => ?_)
    refine vv_aload_n C dX5_feed_20 0 rfl ?_
    refine vv_get (v := .ref (ad 24)) C (hi_X5_feed_X5) 28 (wX_g28 cy ad fad _) rfl 0 (by decide) (List.mem_of_getElem? (i := 1) rfl) rfl dX5_feed_21 ?_
    refine vv_iload_n C dX5_feed_24 2 rfl ?_
    refine vv_callVv  (fun r3 => (wX cy ad fad r3)) C eX_ok h0 [.int x2] [] 1 hF (fun r3 hr3 => kX3_put l D cy ad fad x2 r2 r3  hr3) gX5_feed_X3_put rfl rfl rfl (by decide +kernel) ⟨by decide, by decide⟩ 24 (wX_g24 cy ad fad _) rfl rfl rfl (Nat.le_of_ble_eq_true rfl) dX5_feed_25 ⟨by decide, by decide⟩ (fun r3 hqr3 hF => ?_)
    refine vv_aload_n C dX5_feed_28 0 rfl ?_
    refine vv_get (v := .ref (ad 24)) C (hi_X5_feed_X5) 28 (wX_g28 cy ad fad _) rfl 0 (by decide) (List.mem_of_getElem? (i := 1) rfl) rfl dX5_feed_29 ?_
    refine vv_iload_n C dX5_feed_32 3 rfl ?_
    refine vv_callVv  (fun r4 => (wX cy ad fad r4)) C eX_ok h0 [.int x3] [] 1 hF (fun r4 hr4 => kX3_put l D cy ad fad x3 r3 r4  hr4) gX5_feed_X3_put rfl rfl rfl (by decide +kernel) ⟨by decide, by decide⟩ 24 (wX_g24 cy ad fad _) rfl rfl rfl (Nat.le_of_ble_eq_true rfl) dX5_feed_33 ⟨by decide, by decide⟩ (fun r4 hqr4 hF => ?_)
    refine vv_aload_n C dX5_feed_36 0 rfl ?_
    refine vv_get (v := .ref (ad 24)) C (hi_X5_feed_X5) 28 (wX_g28 cy ad fad _) rfl 0 (by decide) (List.mem_of_getElem? (i := 1) rfl) rfl dX5_feed_37 ?_
    refine vv_iload C dX5_feed_40 4 rfl ?_
    refine vv_callVv  (fun r5 => (wX cy ad fad r5)) C eX_ok h0 [.int x4] [] 1 hF (fun r5 hr5 => kX3_put l D cy ad fad x4 r4 r5  hr5) gX5_feed_X3_put rfl rfl rfl (by decide +kernel) ⟨by decide, by decide⟩ 24 (wX_g24 cy ad fad _) rfl rfl rfl (Nat.le_of_ble_eq_true rfl) dX5_feed_42 ⟨by decide, by decide⟩ (fun r5 hqr5 hF => ?_)
    refine vv_aload_n C dX5_feed_45 0 rfl ?_
    refine vv_get (v := .ref (ad 24)) C (hi_X5_feed_X5) 28 (wX_g28 cy ad fad _) rfl 0 (by decide) (List.mem_of_getElem? (i := 1) rfl) rfl dX5_feed_46 ?_
    refine vv_iload C dX5_feed_49 5 rfl ?_
    refine vv_callVv  (fun r6 => (wX cy ad fad r6)) C eX_ok h0 [.int x5] [] 1 hF (fun r6 hr6 => kX3_put l D cy ad fad x5 r5 r6  hr6) gX5_feed_X3_put rfl rfl rfl (by decide +kernel) ⟨by decide, by decide⟩ 24 (wX_g24 cy ad fad _) rfl rfl rfl (Nat.le_of_ble_eq_true rfl) dX5_feed_51 ⟨by decide, by decide⟩ (fun r6 hqr6 hF => ?_)
    refine vv_aload_n C dX5_feed_54 0 rfl ?_
    refine vv_get (v := .ref (ad 24)) C (hi_X5_feed_X5) 28 (wX_g28 cy ad fad _) rfl 0 (by decide) (List.mem_of_getElem? (i := 1) rfl) rfl dX5_feed_55 ?_
    refine vv_callVi (fun r7 => r7) (fun r7 => (wX cy ad fad r6)) C eX_ok h0 [] [] 0 hF (fun r7 hr7 => kX3_size l D cy ad fad r6 r7  hr7) gX5_feed_X3_size rfl rfl rfl (by decide +kernel) ⟨by decide, by decide⟩ 24 (wX_g24 cy ad fad _) rfl rfl rfl (Nat.le_of_ble_eq_true rfl) dX5_feed_58 ⟨by decide, by decide⟩ (fun r7 hqr7 hF => ?_)
    cases hF
    exact hr _ _ dX5_feed_61 rfl
  · refine vv_iconst (v := (-1)) C dX5_feed_10 (by decide) ?_
    cases hF
    exact hr _ _ dX5_feed_11 rfl
/-! X5_rules -/
abbrev rmX5_rules : Room := { frames := 7, cells := 0, slots := 0, locals := 158 }
theorem hi_X5_rules_X5 : ∀ w ∈ wsX50, w ∈ wsX5_rules := fun w h => List.mem_cons_of_mem _ (List.mem_append_left _ (List.mem_append_left _ (List.mem_append_right _ h)))
def fX5_rules (x1 : Int32) (σ : St_) : Option (Int32 × St_) := (if x1 < 0 then some ((-1), σ) else (bn_ (fX3_size σ) fun r1 => (if x1 ≤ r1 then (bn_ (fX3_cutTo x1 σ) fun r2 => (bn_ (fX2_read r2) fun r3 => (bn_ (fX3_cutTo 0 r3.2) fun r4 => some (r3.1, r4)))) else some ((-1), σ))))
set_option maxHeartbeats 4000000 in
set_option maxRecDepth 20000 in
theorem kX5_rules (l : Launch) (D : va_G) (cy : Nat → ClassId) (ad fad : Nat → Nat) (x1 : Int32) (σ : St_) (res : Int32 × St_)  (hF : fX5_rules x1 σ = some res) : ct_I l D (tysW cy) eX yX5_rules wsX5_rules rmX5_rules [.ref (ad 28), .int x1] (wX cy ad fad σ) res.1 (wX cy ad fad res.2) := by
  refine mt_I (by decide) rfl (Nat.le_of_ble_eq_true rfl) ?_
  intro p e s m args below meth c A Q C h0 hr
  replace C : vv_X p s m args meth c D (tysW cy) A 3 cX5_rules RX5 wsX5_rules := C
  replace hF : ((if x1 < 0 then some ((-1), σ) else (bn_ (fX3_size σ) fun r1 => (if x1 ≤ r1 then (bn_ (fX3_cutTo x1 σ) fun r2 => (bn_ (fX2_read r2) fun r3 => (bn_ (fX3_cutTo 0 r3.2) fun r4 => some (r3.1, r4)))) else some ((-1), σ)))) : Option (Int32 × St_)) = some res := hF
  refine vv_lv [0, 1] (lv' := [(0, .ref (ad 28)), (1, .int x1)]) rfl ?_
  refine vv_iload_n C dX5_rules_0 1 rfl ?_
  refine vv_if_lt (tgt := 15) C dX5_rules_1 (by decide) hF (fun c6 hF => ?_) (fun c6 hF => ?_)
  · refine vv_iconst (v := (-1)) C dX5_rules_15 (by decide) ?_
    cases hF
    exact hr _ _ dX5_rules_16 rfl
  · refine vv_iload_n C dX5_rules_4 1 rfl ?_
    refine vv_aload_n C dX5_rules_5 0 rfl ?_
    refine vv_get (v := .ref (ad 24)) C (hi_X5_rules_X5) 28 (wX_g28 cy ad fad _) rfl 0 (by decide) (List.mem_of_getElem? (i := 1) rfl) rfl dX5_rules_6 ?_
    refine vv_callVi (fun r1 => r1) (fun r1 => (wX cy ad fad σ)) C eX_ok h0 [] [.int x1] 0 hF (fun r1 hr1 => kX3_size l D cy ad fad σ r1  hr1) gX5_rules_X3_size rfl rfl rfl (by decide +kernel) ⟨by decide, by decide⟩ 24 (wX_g24 cy ad fad _) rfl rfl rfl (Nat.le_of_ble_eq_true rfl) dX5_rules_9 ⟨by decide, by decide⟩ (fun r1 hqr1 hF => ?_)
    refine vv_icmp_le (tgt := 17) C dX5_rules_12 (by decide) hF (fun c5 hF => ?_) (fun c5 hF => ?_)
    · refine vv_aload_n C dX5_rules_17 0 rfl ?_
      refine vv_get (v := .ref (ad 24)) C (hi_X5_rules_X5) 28 (wX_g28 cy ad fad _) rfl 0 (by decide) (List.mem_of_getElem? (i := 1) rfl) rfl dX5_rules_18 ?_
      refine vv_iload_n C dX5_rules_21 1 rfl ?_
      refine vv_callVv  (fun r2 => (wX cy ad fad r2)) C eX_ok h0 [.int x1] [] 1 hF (fun r2 hr2 => kX3_cutTo l D cy ad fad x1 σ r2  hr2) gX5_rules_X3_cutTo rfl rfl rfl (by decide +kernel) ⟨by decide, by decide⟩ 24 (wX_g24 cy ad fad _) rfl rfl rfl (Nat.le_of_ble_eq_true rfl) dX5_rules_22 ⟨by decide, by decide⟩ (fun r2 hqr2 hF => ?_)
      refine vv_aload_n C dX5_rules_25 0 rfl ?_
      refine vv_get (v := .ref (ad 25)) C (hi_X5_rules_X5) 28 (wX_g28 cy ad fad _) rfl 1 (by decide) (List.mem_of_getElem? (i := 2) rfl) rfl dX5_rules_26 ?_
      refine vv_aload_n C dX5_rules_29 0 rfl ?_
      refine vv_get (v := .ref (ad 24)) C (hi_X5_rules_X5) 28 (wX_g28 cy ad fad _) rfl 0 (by decide) (List.mem_of_getElem? (i := 1) rfl) rfl dX5_rules_30 ?_
      refine vv_callVi (fun r3 => r3.1) (fun r3 => (wX cy ad fad r3.2)) C eX_ok h0 [.ref (ad 24)] [] 1 hF (fun r3 hr3 => kX2_read l D cy ad fad r2 r3  hr3) gX5_rules_X2_read rfl rfl rfl (by decide +kernel) ⟨by decide, by decide⟩ 25 (wX_g25 cy ad fad _) rfl rfl rfl (Nat.le_of_ble_eq_true rfl) dX5_rules_33 ⟨by decide, by decide⟩ (fun r3 hqr3 hF => ?_)
      refine vv_istore_n (lv' := [(2, .int r3.1), (0, .ref (ad 28)), (1, .int x1)]) C dX5_rules_36 (by decide) rfl ?_
      refine vv_aload_n C dX5_rules_37 1 rfl ?_
      refine vv_get (v := .ref (ad 24)) C (hi_X5_rules_X5) 28 (wX_g28 cy ad fad _) rfl 0 (by decide) (List.mem_of_getElem? (i := 1) rfl) rfl dX5_rules_38 ?_
      refine vv_iconst (v := 0) C dX5_rules_41 (by decide) ?_
      refine vv_callVv  (fun r4 => (wX cy ad fad r4)) C eX_ok h0 [.int 0] [] 1 hF (fun r4 hr4 => kX3_cutTo l D cy ad fad 0 r3.2 r4  hr4) gX5_rules_X3_cutTo rfl rfl rfl (by decide +kernel) ⟨by decide, by decide⟩ 24 (wX_g24 cy ad fad _) rfl rfl rfl (Nat.le_of_ble_eq_true rfl) dX5_rules_42 ⟨by decide, by decide⟩ (fun r4 hqr4 hF => ?_)
      refine vv_iload_n C dX5_rules_45 0 rfl ?_
      cases hF
      exact hr _ _ dX5_rules_46 rfl
    · refine vv_iconst (v := (-1)) C dX5_rules_15 (by decide) ?_
      cases hF
      exact hr _ _ dX5_rules_16 rfl
/-! X5_buys -/
abbrev rmX5_buys : Room := { frames := 3, cells := 0, slots := 0, locals := 64 }
theorem hi_X5_buys_X5 : ∀ w ∈ wsX50, w ∈ wsX5_buys := fun w h => List.mem_cons_of_mem _ (List.mem_append_right _ h)
def fX5_buys (x1 : Int32) (x2 : Int32) (x3 : Int32) (σ : St_) : Option (Int32 × St_) := (bn_ (fX5_areFarms x1 x2 σ) fun r1 => (if r1 = 0 then some (0, σ) else (if x1 = x2 then some (0, σ) else (bn_ (fX5_buysFrom x1 x2 σ) fun r2 => (if r2 = x3 then some (0, σ) else (gd_ x1 10 fun j3 => (gd_ x1 10 fun j4 => some (1, uM σ 10 j4 ((sM σ 10 j3) ^^^ (1 <<< (x2 &&& 31)))))))))))
set_option maxHeartbeats 4000000 in
set_option maxRecDepth 20000 in
theorem kX5_buys (l : Launch) (D : va_G) (cy : Nat → ClassId) (ad fad : Nat → Nat) (x1 : Int32) (x2 : Int32) (x3 : Int32) (σ : St_) (res : Int32 × St_)  (hF : fX5_buys x1 x2 x3 σ = some res) : ct_I l D (tysW cy) eX yX5_buys wsX5_buys rmX5_buys [.ref (ad 28), .int x1, .int x2, .int x3] (wX cy ad fad σ) res.1 (wX cy ad fad res.2) := by
  refine mt_I (by decide) rfl (Nat.le_of_ble_eq_true rfl) ?_
  intro p e s m args below meth c A Q C h0 hr
  replace C : vv_X p s m args meth c D (tysW cy) A 4 cX5_buys RX5 wsX5_buys := C
  replace hF : ((bn_ (fX5_areFarms x1 x2 σ) fun r1 => (if r1 = 0 then some (0, σ) else (if x1 = x2 then some (0, σ) else (bn_ (fX5_buysFrom x1 x2 σ) fun r2 => (if r2 = x3 then some (0, σ) else (gd_ x1 10 fun j3 => (gd_ x1 10 fun j4 => some (1, uM σ 10 j4 ((sM σ 10 j3) ^^^ (1 <<< (x2 &&& 31))))))))))) : Option (Int32 × St_)) = some res := hF
  refine vv_lv [0, 1, 2, 3] (lv' := [(0, .ref (ad 28)), (1, .int x1), (2, .int x2), (3, .int x3)]) rfl ?_
  refine vv_aload_n C dX5_buys_0 0 rfl ?_
  refine vv_iload_n C dX5_buys_1 1 rfl ?_
  refine vv_iload_n C dX5_buys_2 2 rfl ?_
  refine vv_callVi (fun r1 => r1) (fun r1 => (wX cy ad fad σ)) C eX_ok h0 [.int x1, .int x2] [] 2 hF (fun r1 hr1 => kX5_areFarms l D cy ad fad x1 x2 σ r1  hr1) gX5_buys_X5_areFarms rfl rfl rfl (by decide +kernel) ⟨by decide, by decide⟩ 28 (wX_g28 cy ad fad _) rfl rfl rfl (Nat.le_of_ble_eq_true rfl) dX5_buys_3 ⟨by decide, by decide⟩ (fun r1 hqr1 hF => ?_)
  refine vv_if_eq (tgt := 24) C dX5_buys_6 (by decide) hF (fun c7 hF => ?_) (fun c7 hF => ?_)
  · refine vv_iconst (v := 0) C dX5_buys_24 (by decide) ?_
    cases hF
    exact hr _ _ dX5_buys_25 nb_Z0
  · refine vv_iload_n C dX5_buys_9 1 rfl ?_
    refine vv_iload_n C dX5_buys_10 2 rfl ?_
    refine vv_icmp_eq (tgt := 24) C dX5_buys_11 (by decide) hF (fun c6 hF => ?_) (fun c6 hF => ?_)
    · refine vv_iconst (v := 0) C dX5_buys_24 (by decide) ?_
      cases hF
      exact hr _ _ dX5_buys_25 nb_Z0
    · refine vv_aload_n C dX5_buys_14 0 rfl ?_
      refine vv_iload_n C dX5_buys_15 1 rfl ?_
      refine vv_iload_n C dX5_buys_16 2 rfl ?_
      refine vv_callVi (fun r2 => r2) (fun r2 => (wX cy ad fad σ)) C eX_ok h0 [.int x1, .int x2] [] 2 hF (fun r2 hr2 => kX5_buysFrom l D cy ad fad x1 x2 σ r2  hr2) gX5_buys_X5_buysFrom rfl rfl rfl (by decide +kernel) ⟨by decide, by decide⟩ 28 (wX_g28 cy ad fad _) rfl rfl rfl (Nat.le_of_ble_eq_true rfl) dX5_buys_17 ⟨by decide, by decide⟩ (fun r2 hqr2 hF => ?_)
      refine vv_iload_n C dX5_buys_20 3 rfl ?_
      refine vv_icmp_ne (tgt := 26) C dX5_buys_21 (by decide) hF (fun c5 hF => ?_) (fun c5 hF => ?_)
      · refine vv_aload_n C dX5_buys_26 0 rfl ?_
        refine vv_get (v := .ref (ad 10)) C (hi_X5_buys_X5) 28 (wX_g28 cy ad fad _) rfl 5 (by decide) (List.mem_of_getElem? (i := 1) rfl) rfl dX5_buys_27 ?_
        refine vv_iload_n C dX5_buys_30 1 rfl ?_
        refine vv_dup2 C dX5_buys_31 rfl rfl ?_
        refine vv_iald C 10 0 (wX_g10 cy ad fad _) (tysW_0 cy) hF dX5_buys_32 (fun j3 hj3 hF => ?_)
        refine vv_iconst (v := 1) C dX5_buys_33 (by decide) ?_
        refine vv_iload_n C dX5_buys_34 2 rfl ?_
        refine vv_ishl C dX5_buys_35 ?_
        refine vv_ixor C dX5_buys_36 ?_
        refine vv_iast (w' := fun j4 => (wX cy ad fad (uM σ 10 j4 ((sM σ 10 j3) ^^^ (1 <<< (x2 &&& 31)))))) C 10 0 (wX_g10 cy ad fad _) (tysW_0 cy) hF dX5_buys_37 (fun _ => wX_a10 _ _ _ _ _) (fun j4 hj4 hF => ?_)
        refine vv_iconst (v := 1) C dX5_buys_38 (by decide) ?_
        cases hF
        exact hr _ _ dX5_buys_39 nb_Z1
      · refine vv_iconst (v := 0) C dX5_buys_24 (by decide) ?_
        cases hF
        exact hr _ _ dX5_buys_25 nb_Z0
/-! X5_weight -/
abbrev rmX5_weight : Room := { frames := 1, cells := 0, slots := 0, locals := 21 }
theorem hi_X5_weight_X5 : ∀ w ∈ wsX50, w ∈ wsX5_weight := fun w h => List.mem_cons_of_mem _ (List.mem_append_right _ h)
def fX5_weight (x1 : Int32) (x2 : Int32) (σ : St_) : Option (Int32 × St_) := (bn_ (fX5_isBelow x1 8) fun r1 => (if r1 = 0 then some (0, σ) else (if x2 < 1 then some (0, σ) else (if x2 ≤ 99 then (gd_ x1 8 fun j2 => some (1, uM σ 11 j2 x2)) else some (0, σ)))))
set_option maxHeartbeats 4000000 in
set_option maxRecDepth 20000 in
theorem kX5_weight (l : Launch) (D : va_G) (cy : Nat → ClassId) (ad fad : Nat → Nat) (x1 : Int32) (x2 : Int32) (σ : St_) (res : Int32 × St_)  (hF : fX5_weight x1 x2 σ = some res) : ct_I l D (tysW cy) eX yX5_weight wsX5_weight rmX5_weight [.ref (ad 28), .int x1, .int x2] (wX cy ad fad σ) res.1 (wX cy ad fad res.2) := by
  refine mt_I (by decide) rfl (Nat.le_of_ble_eq_true rfl) ?_
  intro p e s m args below meth c A Q C h0 hr
  replace C : vv_X p s m args meth c D (tysW cy) A 3 cX5_weight RX5 wsX5_weight := C
  replace hF : ((bn_ (fX5_isBelow x1 8) fun r1 => (if r1 = 0 then some (0, σ) else (if x2 < 1 then some (0, σ) else (if x2 ≤ 99 then (gd_ x1 8 fun j2 => some (1, uM σ 11 j2 x2)) else some (0, σ))))) : Option (Int32 × St_)) = some res := hF
  refine vv_lv [0, 1, 2] (lv' := [(0, .ref (ad 28)), (1, .int x1), (2, .int x2)]) rfl ?_
  refine vv_iload_n C dX5_weight_0 1 rfl ?_
  refine vv_bipush (v := 8) C dX5_weight_1 (by decide) ?_
  refine vv_callSi (fun r1 => r1) (fun r1 => (wX cy ad fad σ)) C eX_ok h0 [.int x1, .int 8] [] 2 hF (fun r1 hr1 => kX5_isBelow l D (tysW cy) eX_ok (wX cy ad fad σ) x1 8 r1  hr1) gX5_weight_X5_isBelow rfl rfl rfl (by decide +kernel) ⟨by decide, by decide⟩ rfl rfl (Nat.le_of_ble_eq_true rfl) dX5_weight_3 ⟨by decide, by decide⟩ (fun r1 hqr1 hF => ?_)
  refine vv_if_eq (tgt := 20) C dX5_weight_6 (by decide) hF (fun c5 hF => ?_) (fun c5 hF => ?_)
  · refine vv_iconst (v := 0) C dX5_weight_20 (by decide) ?_
    cases hF
    exact hr _ _ dX5_weight_21 nb_Z0
  · refine vv_iload_n C dX5_weight_9 2 rfl ?_
    refine vv_iconst (v := 1) C dX5_weight_10 (by decide) ?_
    refine vv_icmp_lt (tgt := 20) C dX5_weight_11 (by decide) hF (fun c4 hF => ?_) (fun c4 hF => ?_)
    · refine vv_iconst (v := 0) C dX5_weight_20 (by decide) ?_
      cases hF
      exact hr _ _ dX5_weight_21 nb_Z0
    · refine vv_iload_n C dX5_weight_14 2 rfl ?_
      refine vv_bipush (v := 99) C dX5_weight_15 (by decide) ?_
      refine vv_icmp_le (tgt := 22) C dX5_weight_17 (by decide) hF (fun c3 hF => ?_) (fun c3 hF => ?_)
      · refine vv_aload_n C dX5_weight_22 0 rfl ?_
        refine vv_get (v := .ref (ad 11)) C (hi_X5_weight_X5) 28 (wX_g28 cy ad fad _) rfl 6 (by decide) (List.mem_of_getElem? (i := 1) rfl) rfl dX5_weight_23 ?_
        refine vv_iload_n C dX5_weight_26 1 rfl ?_
        refine vv_iload_n C dX5_weight_27 2 rfl ?_
        refine vv_iast (w' := fun j2 => (wX cy ad fad (uM σ 11 j2 x2))) C 11 0 (wX_g11 cy ad fad _) (tysW_0 cy) hF dX5_weight_28 (fun _ => wX_a11 _ _ _ _ _) (fun j2 hj2 hF => ?_)
        refine vv_iconst (v := 1) C dX5_weight_29 (by decide) ?_
        cases hF
        exact hr _ _ dX5_weight_30 nb_Z1
      · refine vv_iconst (v := 0) C dX5_weight_20 (by decide) ?_
        cases hF
        exact hr _ _ dX5_weight_21 nb_Z0
