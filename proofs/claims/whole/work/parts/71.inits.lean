/-- THE WORLDS OF NEW OBJECTS -/
def wTi (cy : Nat → ClassId) (h0 : Nat) (a : Nat) : va_W := [(h0, .inr (3, [.ref a, .int 0])), (a, .inl (cy 0, 60, .inl (fun _ => 0)))]
abbrev rmX3_init : Room := { frames := 1, cells := 1, slots := 60, locals := 12 }
theorem hi_X3_init : ∀ w ∈ wsX30, w ∈ wsX3_init := fun w h => List.mem_cons_of_mem _ (List.mem_append_right _ h)
set_option maxHeartbeats 4000000 in
set_option maxRecDepth 20000 in
theorem kX3_init (l : Launch) (D : va_G) (cy : Nat → ClassId) (h0 : Nat)  : ct_C l D (tysW cy) eI yX3_init wsX3_init rmX3_init [.ref h0] [(h0, .inr (3, [.null, .int 0]))] (fun (u : Nat) => wTi cy h0 u) 1 60 := by
  refine mt_C (by decide) rfl rfl (Nat.le_of_ble_eq_true rfl) ?_
  intro p e s m args below meth c A Q C hin hE0 hr
  replace C : vv_X p s m args meth c D (tysW cy) A 1 cX3_init RX3 wsX3_init := C
  refine vv_lv [0] (lv' := [(0, .ref h0)]) rfl ?_
  refine vv_aload_n C dX3_init_0 0 rfl ?_
  refine vv_objInit C (List.mem_of_getElem? (i := 1) rfl) (List.mem_of_getElem? (i := 2) rfl) (List.mem_of_getElem? (i := 3) rfl) (by decide) (Nat.le_of_ble_eq_true rfl) dX3_init_1 ?_
  refine vv_aload_n C dX3_init_4 0 rfl ?_
  refine vv_bipush (v := 60) C dX3_init_5 (by decide) ?_
  refine vv_newa (ty := .int) C rfl (List.mem_of_getElem? (i := 4) rfl) 0 (tysW_0 cy) (fun _ a b => ra_int a b) 60 (fun _ => rfl) (by decide) (by decide) (by decide) (by decide) (by decide) dX3_init_7 (fun q1 => ?_)
  refine vv_w (w' := [(h0, .inr (3, [.null, .int 0])), (q1, .inl (cy 0, 60, .inl (fun _ => 0)))]) rfl ?_
  refine vv_wide (n' := 1) (k' := 60) (by decide) (by decide) ?_
  refine vv_putF (w' := [(h0, .inr (3, [.ref q1, .int 0])), (q1, .inl (cy 0, 60, .inl (fun _ => 0)))]) C hi_X3_init tyX3 tyX3_ok nmX3 0 rfl rfl 0 (by decide) (List.mem_of_getElem? (i := 5) rfl) rfl hin rfl rfl rfl (Nat.le_of_ble_eq_true rfl) dX3_init_9 rfl ?_
  refine vv_aload_n C dX3_init_12 0 rfl ?_
  refine vv_iconst (v := 0) C dX3_init_13 (by decide) ?_
  refine vv_put (w' := [(h0, .inr (3, [.ref q1, .int 0])), (q1, .inl (cy 0, 60, .inl (fun _ => 0)))]) C hi_X3_init tyX3 tyX3_ok nmX3 0 rfl rfl 1 (by decide) (List.mem_of_getElem? (i := 6) rfl) rfl rfl rfl (Nat.le_of_ble_eq_true rfl) dX3_init_14 rfl ?_
  exact hr q1 _ _ dX3_init_17
def wRi (cy : Nat → ClassId) (h0 : Nat) (u : Nat × Nat) : va_W := [(h0, .inr (2, [.ref u.1, .ref u.2, .int 0])), (u.1, .inl (cy 0, 6, .inl (va_cpy (fun j => lsA.getD j 0) (fun _ => 0) 0 0 6))), (u.2, .inl (cy 0, 6, .inl (fun _ => 0)))]
abbrev rmX2_init : Room := { frames := 1, cells := 2, slots := 12, locals := 18 }
theorem hi_X2_init : ∀ w ∈ wsX20, w ∈ wsX2_init := fun w h => List.mem_cons_of_mem _ (List.mem_append_right _ h)
set_option maxHeartbeats 4000000 in
set_option maxRecDepth 20000 in
theorem kX2_init (l : Launch) (D : va_G) (cy : Nat → ClassId) (h0 : Nat)  : ct_C l D (tysW cy) eI yX2_init wsX2_init rmX2_init [.ref h0] [(h0, .inr (2, [.null, .null, .int 0]))] (fun (u : Nat × Nat) => wRi cy h0 u) 2 12 := by
  refine mt_C (by decide) rfl rfl (Nat.le_of_ble_eq_true rfl) ?_
  intro p e s m args below meth c A Q C hin hE0 hr
  replace C : vv_X p s m args meth c D (tysW cy) A 1 cX2_init RX2 wsX2_init := C
  obtain ⟨hN0, tA, tL, tM, aK, aV, ⟨zA, yA⟩, ⟨zL, yL⟩, ⟨zM, yM⟩, zC, yR, yS⟩ := id hE0.1
  refine vv_lv [0] (lv' := [(0, .ref h0)]) rfl ?_
  refine vv_aload_n C dX2_init_0 0 rfl ?_
  refine vv_objInit C (List.mem_of_getElem? (i := 1) rfl) (List.mem_of_getElem? (i := 2) rfl) (List.mem_of_getElem? (i := 3) rfl) (by decide) (Nat.le_of_ble_eq_true rfl) dX2_init_1 ?_
  refine vv_aload_n C dX2_init_4 0 rfl ?_
  refine vv_bipush (v := 6) C dX2_init_5 (by decide) ?_
  refine vv_newa (ty := .int) C rfl (List.mem_of_getElem? (i := 4) rfl) 0 (tysW_0 cy) (fun _ a b => ra_int a b) 6 (fun _ => rfl) (by decide) (by decide) (by decide) (by decide) (by decide) dX2_init_7 (fun q1 => ?_)
  refine vv_w (w' := [(h0, .inr (2, [.null, .null, .int 0])), (q1, .inl (cy 0, 6, .inl (fun _ => 0)))]) rfl ?_
  refine vv_wide (n' := 1) (k' := 6) (by decide) (by decide) ?_
  refine vv_putF (w' := [(h0, .inr (2, [.ref q1, .null, .int 0])), (q1, .inl (cy 0, 6, .inl (fun _ => 0)))]) C hi_X2_init tyX2 tyX2_ok nmX2 0 rfl rfl 0 (by decide) (List.mem_of_getElem? (i := 5) rfl) rfl hin rfl rfl rfl (Nat.le_of_ble_eq_true rfl) dX2_init_9 rfl ?_
  refine vv_aload_n C dX2_init_12 0 rfl ?_
  refine vv_bipush (v := 6) C dX2_init_13 (by decide) ?_
  refine vv_newa (ty := .int) C rfl (List.mem_of_getElem? (i := 4) rfl) 0 (tysW_0 cy) (fun _ a b => ra_int a b) 6 (fun _ => rfl) (by decide) (by decide) (by decide) (by decide) (by decide) dX2_init_15 (fun q2 => ?_)
  refine vv_w (w' := [(h0, .inr (2, [.ref q1, .null, .int 0])), (q1, .inl (cy 0, 6, .inl (fun _ => 0))), (q2, .inl (cy 0, 6, .inl (fun _ => 0)))]) rfl ?_
  refine vv_wide (n' := 2) (k' := 12) (by decide) (by decide) ?_
  refine vv_putF (w' := [(h0, .inr (2, [.ref q1, .ref q2, .int 0])), (q1, .inl (cy 0, 6, .inl (fun _ => 0))), (q2, .inl (cy 0, 6, .inl (fun _ => 0)))]) C hi_X2_init tyX2 tyX2_ok nmX2 0 rfl rfl 1 (by decide) (List.mem_of_getElem? (i := 6) rfl) rfl hin rfl rfl rfl (Nat.le_of_ble_eq_true rfl) dX2_init_17 rfl ?_
  refine vv_aload_n C dX2_init_20 0 rfl ?_
  refine vv_iconst (v := 0) C dX2_init_21 (by decide) ?_
  refine vv_put (w' := [(h0, .inr (2, [.ref q1, .ref q2, .int 0])), (q1, .inl (cy 0, 6, .inl (fun _ => 0))), (q2, .inl (cy 0, 6, .inl (fun _ => 0)))]) C hi_X2_init tyX2 tyX2_ok nmX2 0 rfl rfl 2 (by decide) (List.mem_of_getElem? (i := 7) rfl) rfl rfl rfl (Nat.le_of_ble_eq_true rfl) dX2_init_22 rfl ?_
  refine vv_gets C zA (List.mem_of_getElem? (i := 8) rfl) dX2_init_25 ?_
  refine vv_iconst (v := 0) C dX2_init_28 (by decide) ?_
  refine vv_aload_n C dX2_init_29 0 rfl ?_
  refine vv_get (v := .ref q1) C hi_X2_init 0 rfl rfl 0 (by decide) (List.mem_of_getElem? (i := 5) rfl) rfl dX2_init_30 ?_
  refine vv_iconst (v := 0) C dX2_init_33 (by decide) ?_
  refine vv_bipush (v := 6) C dX2_init_34 (by decide) ?_
  refine vv_copyT (w' := [(h0, .inr (2, [.ref q1, .ref q2, .int 0])), (q1, .inl (cy 0, 6, .inl (va_cpy (fun j => lsA.getD j 0) (fun _ => 0) 0 0 6))), (q2, .inl (cy 0, 6, .inl (fun _ => 0)))]) C (List.mem_of_getElem? (i := 9) rfl) (List.mem_of_getElem? (i := 10) rfl) (List.mem_of_getElem? (i := 11) rfl) (List.mem_of_getElem? (i := 12) rfl) yA 1 0 rfl (tysW_0 cy) 6 (by decide) (by decide) (by decide) (by decide) (by decide) (Nat.le_of_ble_eq_true rfl) dX2_init_36 rfl ?_
  exact hr (q1, q2) _ _ dX2_init_39
def wVi (cy : Nat → ClassId) (h0 : Nat) (u : Nat × Nat × Nat × (Nat → Nat)) : va_W := [(h0, .inr (4, [.ref u.1, .ref u.2.1, .ref u.2.2.1, .int 0])), (u.1, .inl (cy 0, 10, .inl (fun _ => 0))), (u.2.1, .inl (cy 0, 10, .inl (fun _ => 0))), (u.2.2.1, .inl (cy 4, 10, .inr (.inr (.inr (.inr (fun i => if i < 10 then some (u.2.2.2 i) else none)))))), (u.2.2.2 0, .inl (cy 0, 10, .inl (fun _ => 0))), (u.2.2.2 1, .inl (cy 0, 10, .inl (fun _ => 0))), (u.2.2.2 2, .inl (cy 0, 10, .inl (fun _ => 0))), (u.2.2.2 3, .inl (cy 0, 10, .inl (fun _ => 0))), (u.2.2.2 4, .inl (cy 0, 10, .inl (fun _ => 0))), (u.2.2.2 5, .inl (cy 0, 10, .inl (fun _ => 0))), (u.2.2.2 6, .inl (cy 0, 10, .inl (fun _ => 0))), (u.2.2.2 7, .inl (cy 0, 10, .inl (fun _ => 0))), (u.2.2.2 8, .inl (cy 0, 10, .inl (fun _ => 0))), (u.2.2.2 9, .inl (cy 0, 10, .inl (fun _ => 0)))]
abbrev rmX4_init : Room := { frames := 1, cells := 13, slots := 130, locals := 12 }
theorem hi_X4_init : ∀ w ∈ wsX40, w ∈ wsX4_init := fun w h => List.mem_cons_of_mem _ (List.mem_append_right _ h)
set_option maxHeartbeats 4000000 in
set_option maxRecDepth 20000 in
theorem kX4_init (l : Launch) (D : va_G) (cy : Nat → ClassId) (h0 : Nat)  : ct_C l D (tysW cy) eI yX4_init wsX4_init rmX4_init [.ref h0] [(h0, .inr (4, [.null, .null, .null, .int 0]))] (fun (u : Nat × Nat × Nat × (Nat → Nat)) => wVi cy h0 u) 13 130 := by
  refine mt_C (by decide) rfl rfl (Nat.le_of_ble_eq_true rfl) ?_
  intro p e s m args below meth c A Q C hin hE0 hr
  replace C : vv_X p s m args meth c D (tysW cy) A 1 cX4_init RX4 wsX4_init := C
  refine vv_lv [0] (lv' := [(0, .ref h0)]) rfl ?_
  refine vv_aload_n C dX4_init_0 0 rfl ?_
  refine vv_objInit C (List.mem_of_getElem? (i := 1) rfl) (List.mem_of_getElem? (i := 2) rfl) (List.mem_of_getElem? (i := 3) rfl) (by decide) (Nat.le_of_ble_eq_true rfl) dX4_init_1 ?_
  refine vv_aload_n C dX4_init_4 0 rfl ?_
  refine vv_bipush (v := 10) C dX4_init_5 (by decide) ?_
  refine vv_newa (ty := .int) C rfl (List.mem_of_getElem? (i := 4) rfl) 0 (tysW_0 cy) (fun _ a b => ra_int a b) 10 (fun _ => rfl) (by decide) (by decide) (by decide) (by decide) (by decide) dX4_init_7 (fun q1 => ?_)
  refine vv_w (w' := [(h0, .inr (4, [.null, .null, .null, .int 0])), (q1, .inl (cy 0, 10, .inl (fun _ => 0)))]) rfl ?_
  refine vv_wide (n' := 1) (k' := 10) (by decide) (by decide) ?_
  refine vv_putF (w' := [(h0, .inr (4, [.ref q1, .null, .null, .int 0])), (q1, .inl (cy 0, 10, .inl (fun _ => 0)))]) C hi_X4_init tyX4 tyX4_ok nmX4 0 rfl rfl 0 (by decide) (List.mem_of_getElem? (i := 5) rfl) rfl hin rfl rfl rfl (Nat.le_of_ble_eq_true rfl) dX4_init_9 rfl ?_
  refine vv_aload_n C dX4_init_12 0 rfl ?_
  refine vv_bipush (v := 10) C dX4_init_13 (by decide) ?_
  refine vv_newa (ty := .int) C rfl (List.mem_of_getElem? (i := 4) rfl) 0 (tysW_0 cy) (fun _ a b => ra_int a b) 10 (fun _ => rfl) (by decide) (by decide) (by decide) (by decide) (by decide) dX4_init_15 (fun q2 => ?_)
  refine vv_w (w' := [(h0, .inr (4, [.ref q1, .null, .null, .int 0])), (q1, .inl (cy 0, 10, .inl (fun _ => 0))), (q2, .inl (cy 0, 10, .inl (fun _ => 0)))]) rfl ?_
  refine vv_wide (n' := 2) (k' := 20) (by decide) (by decide) ?_
  refine vv_putF (w' := [(h0, .inr (4, [.ref q1, .ref q2, .null, .int 0])), (q1, .inl (cy 0, 10, .inl (fun _ => 0))), (q2, .inl (cy 0, 10, .inl (fun _ => 0)))]) C hi_X4_init tyX4 tyX4_ok nmX4 0 rfl rfl 1 (by decide) (List.mem_of_getElem? (i := 6) rfl) rfl hin rfl rfl rfl (Nat.le_of_ble_eq_true rfl) dX4_init_17 rfl ?_
  refine vv_aload_n C dX4_init_20 0 rfl ?_
  refine vv_bipush (v := 10) C dX4_init_21 (by decide) ?_
  refine vv_bipush (v := 10) C dX4_init_23 (by decide) ?_
  refine vv_mna C (List.mem_of_getElem? (i := 7) rfl) (List.mem_of_getElem? (i := 4) rfl) hE0.2.2.2.2.2 4 0 (tysW_4 cy) (tysW_0 cy) (by decide) (by decide) dX4_init_25 (fun q3 r => ?_)
  refine vv_w (w' := [(h0, .inr (4, [.ref q1, .ref q2, .null, .int 0])), (q1, .inl (cy 0, 10, .inl (fun _ => 0))), (q2, .inl (cy 0, 10, .inl (fun _ => 0))), (q3, .inl (cy 4, 10, .inr (.inr (.inr (.inr (fun i => if i < 10 then some (r i) else none)))))), (r 0, .inl (cy 0, 10, .inl (fun _ => 0))), (r 1, .inl (cy 0, 10, .inl (fun _ => 0))), (r 2, .inl (cy 0, 10, .inl (fun _ => 0))), (r 3, .inl (cy 0, 10, .inl (fun _ => 0))), (r 4, .inl (cy 0, 10, .inl (fun _ => 0))), (r 5, .inl (cy 0, 10, .inl (fun _ => 0))), (r 6, .inl (cy 0, 10, .inl (fun _ => 0))), (r 7, .inl (cy 0, 10, .inl (fun _ => 0))), (r 8, .inl (cy 0, 10, .inl (fun _ => 0))), (r 9, .inl (cy 0, 10, .inl (fun _ => 0)))]) rfl ?_
  refine vv_wide (n' := 13) (k' := 130) (by decide) (by decide) ?_
  refine vv_putF (w' := [(h0, .inr (4, [.ref q1, .ref q2, .ref q3, .int 0])), (q1, .inl (cy 0, 10, .inl (fun _ => 0))), (q2, .inl (cy 0, 10, .inl (fun _ => 0))), (q3, .inl (cy 4, 10, .inr (.inr (.inr (.inr (fun i => if i < 10 then some (r i) else none)))))), (r 0, .inl (cy 0, 10, .inl (fun _ => 0))), (r 1, .inl (cy 0, 10, .inl (fun _ => 0))), (r 2, .inl (cy 0, 10, .inl (fun _ => 0))), (r 3, .inl (cy 0, 10, .inl (fun _ => 0))), (r 4, .inl (cy 0, 10, .inl (fun _ => 0))), (r 5, .inl (cy 0, 10, .inl (fun _ => 0))), (r 6, .inl (cy 0, 10, .inl (fun _ => 0))), (r 7, .inl (cy 0, 10, .inl (fun _ => 0))), (r 8, .inl (cy 0, 10, .inl (fun _ => 0))), (r 9, .inl (cy 0, 10, .inl (fun _ => 0)))]) C hi_X4_init tyX4 tyX4_ok nmX4 0 rfl rfl 2 (by decide) (List.mem_of_getElem? (i := 8) rfl) rfl hin rfl rfl rfl (Nat.le_of_ble_eq_true rfl) dX4_init_29 rfl ?_
  refine vv_aload_n C dX4_init_32 0 rfl ?_
  refine vv_iconst (v := 0) C dX4_init_33 (by decide) ?_
  refine vv_put (w' := [(h0, .inr (4, [.ref q1, .ref q2, .ref q3, .int 0])), (q1, .inl (cy 0, 10, .inl (fun _ => 0))), (q2, .inl (cy 0, 10, .inl (fun _ => 0))), (q3, .inl (cy 4, 10, .inr (.inr (.inr (.inr (fun i => if i < 10 then some (r i) else none)))))), (r 0, .inl (cy 0, 10, .inl (fun _ => 0))), (r 1, .inl (cy 0, 10, .inl (fun _ => 0))), (r 2, .inl (cy 0, 10, .inl (fun _ => 0))), (r 3, .inl (cy 0, 10, .inl (fun _ => 0))), (r 4, .inl (cy 0, 10, .inl (fun _ => 0))), (r 5, .inl (cy 0, 10, .inl (fun _ => 0))), (r 6, .inl (cy 0, 10, .inl (fun _ => 0))), (r 7, .inl (cy 0, 10, .inl (fun _ => 0))), (r 8, .inl (cy 0, 10, .inl (fun _ => 0))), (r 9, .inl (cy 0, 10, .inl (fun _ => 0)))]) C hi_X4_init tyX4 tyX4_ok nmX4 0 rfl rfl 3 (by decide) (List.mem_of_getElem? (i := 9) rfl) rfl (by decide +kernel) (by decide +kernel) (Nat.le_of_ble_eq_true rfl) dX4_init_34 rfl ?_
  exact hr (q1, q2, q3, r) _ _ dX4_init_37
def wPi (cy : Nat → ClassId) (h0 : Nat) (u : Nat × Nat × Nat × Nat × Nat) : va_W := [(h0, .inr (1, [.ref u.1, .ref u.2.1, .ref u.2.2.1, .ref u.2.2.2.1, .ref u.2.2.2.2, .int 0, .int 0])), (u.1, .inl (cy 0, 22, .inl (fun _ => 0))), (u.2.1, .inl (cy 0, 22, .inl (fun _ => 0))), (u.2.2.1, .inl (cy 0, 22, .inl (fun _ => 0))), (u.2.2.2.1, .inl (cy 0, 10, .inl (fun _ => 0))), (u.2.2.2.2, .inl (cy 0, 10, .inl (fun _ => 0)))]
abbrev rmX1_init : Room := { frames := 1, cells := 5, slots := 86, locals := 12 }
theorem hi_X1_init : ∀ w ∈ wsX10, w ∈ wsX1_init := fun w h => List.mem_cons_of_mem _ (List.mem_append_right _ h)
set_option maxHeartbeats 4000000 in
set_option maxRecDepth 20000 in
theorem kX1_init (l : Launch) (D : va_G) (cy : Nat → ClassId) (h0 : Nat)  : ct_C l D (tysW cy) eI yX1_init wsX1_init rmX1_init [.ref h0] [(h0, .inr (1, [.null, .null, .null, .null, .null, .int 0, .int 0]))] (fun (u : Nat × Nat × Nat × Nat × Nat) => wPi cy h0 u) 5 86 := by
  refine mt_C (by decide) rfl rfl (Nat.le_of_ble_eq_true rfl) ?_
  intro p e s m args below meth c A Q C hin hE0 hr
  replace C : vv_X p s m args meth c D (tysW cy) A 1 cX1_init RX1 wsX1_init := C
  refine vv_lv [0] (lv' := [(0, .ref h0)]) rfl ?_
  refine vv_aload_n C dX1_init_0 0 rfl ?_
  refine vv_objInit C (List.mem_of_getElem? (i := 1) rfl) (List.mem_of_getElem? (i := 2) rfl) (List.mem_of_getElem? (i := 3) rfl) (by decide) (Nat.le_of_ble_eq_true rfl) dX1_init_1 ?_
  refine vv_aload_n C dX1_init_4 0 rfl ?_
  refine vv_bipush (v := 22) C dX1_init_5 (by decide) ?_
  refine vv_newa (ty := .int) C rfl (List.mem_of_getElem? (i := 4) rfl) 0 (tysW_0 cy) (fun _ a b => ra_int a b) 22 (fun _ => rfl) (by decide) (by decide) (by decide) (by decide) (by decide) dX1_init_7 (fun q1 => ?_)
  refine vv_w (w' := [(h0, .inr (1, [.null, .null, .null, .null, .null, .int 0, .int 0])), (q1, .inl (cy 0, 22, .inl (fun _ => 0)))]) rfl ?_
  refine vv_wide (n' := 1) (k' := 22) (by decide) (by decide) ?_
  refine vv_putF (w' := [(h0, .inr (1, [.ref q1, .null, .null, .null, .null, .int 0, .int 0])), (q1, .inl (cy 0, 22, .inl (fun _ => 0)))]) C hi_X1_init tyX1 tyX1_ok nmX1 0 rfl rfl 0 (by decide) (List.mem_of_getElem? (i := 5) rfl) rfl hin rfl rfl rfl (Nat.le_of_ble_eq_true rfl) dX1_init_9 rfl ?_
  refine vv_aload_n C dX1_init_12 0 rfl ?_
  refine vv_bipush (v := 22) C dX1_init_13 (by decide) ?_
  refine vv_newa (ty := .int) C rfl (List.mem_of_getElem? (i := 4) rfl) 0 (tysW_0 cy) (fun _ a b => ra_int a b) 22 (fun _ => rfl) (by decide) (by decide) (by decide) (by decide) (by decide) dX1_init_15 (fun q2 => ?_)
  refine vv_w (w' := [(h0, .inr (1, [.ref q1, .null, .null, .null, .null, .int 0, .int 0])), (q1, .inl (cy 0, 22, .inl (fun _ => 0))), (q2, .inl (cy 0, 22, .inl (fun _ => 0)))]) rfl ?_
  refine vv_wide (n' := 2) (k' := 44) (by decide) (by decide) ?_
  refine vv_putF (w' := [(h0, .inr (1, [.ref q1, .ref q2, .null, .null, .null, .int 0, .int 0])), (q1, .inl (cy 0, 22, .inl (fun _ => 0))), (q2, .inl (cy 0, 22, .inl (fun _ => 0)))]) C hi_X1_init tyX1 tyX1_ok nmX1 0 rfl rfl 1 (by decide) (List.mem_of_getElem? (i := 6) rfl) rfl hin rfl rfl rfl (Nat.le_of_ble_eq_true rfl) dX1_init_17 rfl ?_
  refine vv_aload_n C dX1_init_20 0 rfl ?_
  refine vv_bipush (v := 22) C dX1_init_21 (by decide) ?_
  refine vv_newa (ty := .int) C rfl (List.mem_of_getElem? (i := 4) rfl) 0 (tysW_0 cy) (fun _ a b => ra_int a b) 22 (fun _ => rfl) (by decide) (by decide) (by decide) (by decide) (by decide) dX1_init_23 (fun q3 => ?_)
  refine vv_w (w' := [(h0, .inr (1, [.ref q1, .ref q2, .null, .null, .null, .int 0, .int 0])), (q1, .inl (cy 0, 22, .inl (fun _ => 0))), (q2, .inl (cy 0, 22, .inl (fun _ => 0))), (q3, .inl (cy 0, 22, .inl (fun _ => 0)))]) rfl ?_
  refine vv_wide (n' := 3) (k' := 66) (by decide) (by decide) ?_
  refine vv_putF (w' := [(h0, .inr (1, [.ref q1, .ref q2, .ref q3, .null, .null, .int 0, .int 0])), (q1, .inl (cy 0, 22, .inl (fun _ => 0))), (q2, .inl (cy 0, 22, .inl (fun _ => 0))), (q3, .inl (cy 0, 22, .inl (fun _ => 0)))]) C hi_X1_init tyX1 tyX1_ok nmX1 0 rfl rfl 2 (by decide) (List.mem_of_getElem? (i := 7) rfl) rfl hin rfl rfl rfl (Nat.le_of_ble_eq_true rfl) dX1_init_25 rfl ?_
  refine vv_aload_n C dX1_init_28 0 rfl ?_
  refine vv_bipush (v := 10) C dX1_init_29 (by decide) ?_
  refine vv_newa (ty := .int) C rfl (List.mem_of_getElem? (i := 4) rfl) 0 (tysW_0 cy) (fun _ a b => ra_int a b) 10 (fun _ => rfl) (by decide) (by decide) (by decide) (by decide) (by decide) dX1_init_31 (fun q4 => ?_)
  refine vv_w (w' := [(h0, .inr (1, [.ref q1, .ref q2, .ref q3, .null, .null, .int 0, .int 0])), (q1, .inl (cy 0, 22, .inl (fun _ => 0))), (q2, .inl (cy 0, 22, .inl (fun _ => 0))), (q3, .inl (cy 0, 22, .inl (fun _ => 0))), (q4, .inl (cy 0, 10, .inl (fun _ => 0)))]) rfl ?_
  refine vv_wide (n' := 4) (k' := 76) (by decide) (by decide) ?_
  refine vv_putF (w' := [(h0, .inr (1, [.ref q1, .ref q2, .ref q3, .ref q4, .null, .int 0, .int 0])), (q1, .inl (cy 0, 22, .inl (fun _ => 0))), (q2, .inl (cy 0, 22, .inl (fun _ => 0))), (q3, .inl (cy 0, 22, .inl (fun _ => 0))), (q4, .inl (cy 0, 10, .inl (fun _ => 0)))]) C hi_X1_init tyX1 tyX1_ok nmX1 0 rfl rfl 3 (by decide) (List.mem_of_getElem? (i := 8) rfl) rfl hin rfl rfl rfl (Nat.le_of_ble_eq_true rfl) dX1_init_33 rfl ?_
  refine vv_aload_n C dX1_init_36 0 rfl ?_
  refine vv_bipush (v := 10) C dX1_init_37 (by decide) ?_
  refine vv_newa (ty := .int) C rfl (List.mem_of_getElem? (i := 4) rfl) 0 (tysW_0 cy) (fun _ a b => ra_int a b) 10 (fun _ => rfl) (by decide) (by decide) (by decide) (by decide) (by decide) dX1_init_39 (fun q5 => ?_)
  refine vv_w (w' := [(h0, .inr (1, [.ref q1, .ref q2, .ref q3, .ref q4, .null, .int 0, .int 0])), (q1, .inl (cy 0, 22, .inl (fun _ => 0))), (q2, .inl (cy 0, 22, .inl (fun _ => 0))), (q3, .inl (cy 0, 22, .inl (fun _ => 0))), (q4, .inl (cy 0, 10, .inl (fun _ => 0))), (q5, .inl (cy 0, 10, .inl (fun _ => 0)))]) rfl ?_
  refine vv_wide (n' := 5) (k' := 86) (by decide) (by decide) ?_
  refine vv_putF (w' := [(h0, .inr (1, [.ref q1, .ref q2, .ref q3, .ref q4, .ref q5, .int 0, .int 0])), (q1, .inl (cy 0, 22, .inl (fun _ => 0))), (q2, .inl (cy 0, 22, .inl (fun _ => 0))), (q3, .inl (cy 0, 22, .inl (fun _ => 0))), (q4, .inl (cy 0, 10, .inl (fun _ => 0))), (q5, .inl (cy 0, 10, .inl (fun _ => 0)))]) C hi_X1_init tyX1 tyX1_ok nmX1 0 rfl rfl 4 (by decide) (List.mem_of_getElem? (i := 9) rfl) rfl hin rfl rfl rfl (Nat.le_of_ble_eq_true rfl) dX1_init_41 rfl ?_
  refine vv_aload_n C dX1_init_44 0 rfl ?_
  refine vv_iconst (v := 0) C dX1_init_45 (by decide) ?_
  refine vv_put (w' := [(h0, .inr (1, [.ref q1, .ref q2, .ref q3, .ref q4, .ref q5, .int 0, .int 0])), (q1, .inl (cy 0, 22, .inl (fun _ => 0))), (q2, .inl (cy 0, 22, .inl (fun _ => 0))), (q3, .inl (cy 0, 22, .inl (fun _ => 0))), (q4, .inl (cy 0, 10, .inl (fun _ => 0))), (q5, .inl (cy 0, 10, .inl (fun _ => 0)))]) C hi_X1_init tyX1 tyX1_ok nmX1 0 rfl rfl 5 (by decide) (List.mem_of_getElem? (i := 10) rfl) rfl rfl rfl (Nat.le_of_ble_eq_true rfl) dX1_init_46 rfl ?_
  refine vv_aload_n C dX1_init_49 0 rfl ?_
  refine vv_iconst (v := 0) C dX1_init_50 (by decide) ?_
  refine vv_put (w' := [(h0, .inr (1, [.ref q1, .ref q2, .ref q3, .ref q4, .ref q5, .int 0, .int 0])), (q1, .inl (cy 0, 22, .inl (fun _ => 0))), (q2, .inl (cy 0, 22, .inl (fun _ => 0))), (q3, .inl (cy 0, 22, .inl (fun _ => 0))), (q4, .inl (cy 0, 10, .inl (fun _ => 0))), (q5, .inl (cy 0, 10, .inl (fun _ => 0)))]) C hi_X1_init tyX1 tyX1_ok nmX1 0 rfl rfl 6 (by decide) (List.mem_of_getElem? (i := 11) rfl) rfl rfl rfl (Nat.le_of_ble_eq_true rfl) dX1_init_51 rfl ?_
  exact hr (q1, q2, q3, q4, q5) _ _ dX1_init_54
def wFi (h0 : Nat) (x1 x2 : Int32) : va_W := [(h0, .inr (0, [.int x1, .int x2, .int 0, .int 0, .int 0, .int 0, .int 0, .int 0]))]
abbrev rmX0_init : Room := { frames := 1, cells := 0, slots := 0, locals := 12 }
theorem hi_X0_init : ∀ w ∈ wsX00, w ∈ wsX0_init := fun w h => List.mem_cons_of_mem _ (List.mem_append_right _ h)
set_option maxHeartbeats 4000000 in
set_option maxRecDepth 20000 in
theorem kX0_init (l : Launch) (D : va_G) (cy : Nat → ClassId) (h0 : Nat) (x1 x2 : Int32) : ct_C l D (tysW cy) eI yX0_init wsX0_init rmX0_init [.ref h0, .int x1, .int x2] [(h0, .inr (0, [.int 0, .int 0, .int 0, .int 0, .int 0, .int 0, .int 0, .int 0]))] (fun (u : Unit) => wFi h0 x1 x2) 0 0 := by
  refine mt_C (by decide) rfl rfl (Nat.le_of_ble_eq_true rfl) ?_
  intro p e s m args below meth c A Q C hin hE0 hr
  replace C : vv_X p s m args meth c D (tysW cy) A 3 cX0_init RX0 wsX0_init := C
  refine vv_lv [0, 1, 2] (lv' := [(0, .ref h0), (1, .int x1), (2, .int x2)]) rfl ?_
  refine vv_aload_n C dX0_init_0 0 rfl ?_
  refine vv_objInit C (List.mem_of_getElem? (i := 1) rfl) (List.mem_of_getElem? (i := 2) rfl) (List.mem_of_getElem? (i := 3) rfl) (by decide) (Nat.le_of_ble_eq_true rfl) dX0_init_1 ?_
  refine vv_aload_n C dX0_init_4 0 rfl ?_
  refine vv_iconst (v := 0) C dX0_init_5 (by decide) ?_
  refine vv_put (w' := [(h0, .inr (0, [.int 0, .int 0, .int 0, .int 0, .int 0, .int 0, .int 0, .int 0]))]) C hi_X0_init tyX0 tyX0_ok nmX0 0 rfl rfl 2 (by decide) (List.mem_of_getElem? (i := 4) rfl) rfl (by decide +kernel) (by decide +kernel) (Nat.le_of_ble_eq_true rfl) dX0_init_6 rfl ?_
  refine vv_aload_n C dX0_init_9 0 rfl ?_
  refine vv_iconst (v := 0) C dX0_init_10 (by decide) ?_
  refine vv_put (w' := [(h0, .inr (0, [.int 0, .int 0, .int 0, .int 0, .int 0, .int 0, .int 0, .int 0]))]) C hi_X0_init tyX0 tyX0_ok nmX0 0 rfl rfl 3 (by decide) (List.mem_of_getElem? (i := 5) rfl) rfl rfl rfl (Nat.le_of_ble_eq_true rfl) dX0_init_11 rfl ?_
  refine vv_aload_n C dX0_init_14 0 rfl ?_
  refine vv_iconst (v := 0) C dX0_init_15 (by decide) ?_
  refine vv_put (w' := [(h0, .inr (0, [.int 0, .int 0, .int 0, .int 0, .int 0, .int 0, .int 0, .int 0]))]) C hi_X0_init tyX0 tyX0_ok nmX0 0 rfl rfl 4 (by decide) (List.mem_of_getElem? (i := 6) rfl) rfl rfl rfl (Nat.le_of_ble_eq_true rfl) dX0_init_16 rfl ?_
  refine vv_aload_n C dX0_init_19 0 rfl ?_
  refine vv_iconst (v := 0) C dX0_init_20 (by decide) ?_
  refine vv_put (w' := [(h0, .inr (0, [.int 0, .int 0, .int 0, .int 0, .int 0, .int 0, .int 0, .int 0]))]) C hi_X0_init tyX0 tyX0_ok nmX0 0 rfl rfl 5 (by decide) (List.mem_of_getElem? (i := 7) rfl) rfl rfl rfl (Nat.le_of_ble_eq_true rfl) dX0_init_21 rfl ?_
  refine vv_aload_n C dX0_init_24 0 rfl ?_
  refine vv_iconst (v := 0) C dX0_init_25 (by decide) ?_
  refine vv_put (w' := [(h0, .inr (0, [.int 0, .int 0, .int 0, .int 0, .int 0, .int 0, .int 0, .int 0]))]) C hi_X0_init tyX0 tyX0_ok nmX0 0 rfl rfl 6 (by decide) (List.mem_of_getElem? (i := 8) rfl) rfl rfl rfl (Nat.le_of_ble_eq_true rfl) dX0_init_26 rfl ?_
  refine vv_aload_n C dX0_init_29 0 rfl ?_
  refine vv_iconst (v := 0) C dX0_init_30 (by decide) ?_
  refine vv_put (w' := [(h0, .inr (0, [.int 0, .int 0, .int 0, .int 0, .int 0, .int 0, .int 0, .int 0]))]) C hi_X0_init tyX0 tyX0_ok nmX0 0 rfl rfl 7 (by decide) (List.mem_of_getElem? (i := 9) rfl) rfl rfl rfl (Nat.le_of_ble_eq_true rfl) dX0_init_31 rfl ?_
  refine vv_aload_n C dX0_init_34 0 rfl ?_
  refine vv_iload_n C dX0_init_35 1 rfl ?_
  refine vv_putF (w' := [(h0, .inr (0, [.int x1, .int 0, .int 0, .int 0, .int 0, .int 0, .int 0, .int 0]))]) C hi_X0_init tyX0 tyX0_ok nmX0 0 rfl rfl 0 (by decide) (List.mem_of_getElem? (i := 10) rfl) rfl hin rfl rfl rfl (Nat.le_of_ble_eq_true rfl) dX0_init_36 rfl ?_
  refine vv_aload_n C dX0_init_39 0 rfl ?_
  refine vv_iload_n C dX0_init_40 2 rfl ?_
  refine vv_putF (w' := [(h0, .inr (0, [.int x1, .int x2, .int 0, .int 0, .int 0, .int 0, .int 0, .int 0]))]) C hi_X0_init tyX0 tyX0_ok nmX0 0 rfl rfl 1 (by decide) (List.mem_of_getElem? (i := 11) rfl) rfl hin rfl rfl rfl (Nat.le_of_ble_eq_true rfl) dX0_init_41 rfl ?_
  exact hr () _ _ dX0_init_44
