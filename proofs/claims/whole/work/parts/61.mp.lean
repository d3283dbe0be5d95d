/-! X6_turns -/
abbrev rmX6_turns : Room := { frames := 0, cells := 0, slots := 0, locals := 0 }
theorem hi_X6_turns_X6 : ∀ w ∈ wsX60, w ∈ wsX6_turns := fun w h => List.mem_cons_of_mem _ (List.mem_append_right _ h)
def fX6_turns_71 (x2 : Int32) (x3 : Int32) (σ : St_) : Option St_ := (gd_ ((10 * x3) + x2) 100 fun j10 => (gd_ x3 10 fun j11 => (gd_ x3 10 fun j12 => some (uM (uM σ 22 j10 (vp_nar .boolean 1)) 23 j12 ((sM (uM σ 22 j10 (vp_nar .boolean 1)) 23 j11) + 1)))))
def fX6_turns_19 : Nat → Int32 → Int32 → St_ → Option St_
  | 0, _, _, _ => none
  | n + 1, x2, x3, σ => (gd_ x3 10 fun j4 => (if (sM σ 25 j4) = 10 then fX6_turns_71  x2 x3 σ else (gd_ ((10 * x3) + x2) 100 fun j5 => (gd_ x3 10 fun j6 => (gd_ ((10 * x3) + (sM (uM σ 22 j5 (vp_nar .boolean 1)) 25 j6)) 100 fun j7 => (gd_ (sM (uM σ 22 j5 (vp_nar .boolean 1)) 25 j6) 10 fun j8 => fX6_turns_19  n (sM (uM σ 22 j5 (vp_nar .boolean 1)) 25 j6) (sM (uM (uM σ 22 j5 (vp_nar .boolean 1)) 22 j7 (vp_nar .boolean 0)) 26 j8) (uM (uM σ 22 j5 (vp_nar .boolean 1)) 22 j7 (vp_nar .boolean 0))))))))
def fX6_turns (x1 : Int32) (σ : St_) : Option St_ := (gd_ x1 10 fun j1 => (gd_ x1 10 fun j2 => (gd_ x1 10 fun j3 => fX6_turns_19  FU_ x1 (sM (uM σ 24 j2 ((sM σ 24 j1) + 1)) 26 j3) (uM σ 24 j2 ((sM σ 24 j1) + 1)))))
set_option maxHeartbeats 4000000 in
set_option maxRecDepth 20000 in
theorem vX6_turns_71 {p : Program} {l : Launch} {e : Env} {s : State} {m : MethodId} {args : Array Value} {below : List Frame} {meth : Method} {c : Code} {D : va_G} {A : Nat → Prop} {Q : State → Prop} {cy : Nat → ClassId} {ad : Nat → Nat} {res : St_} (C : vv_X p s m args meth c D (tysW cy) A 4 cX6_turns RX6 wsX6_turns) (h0 : en_T A s) (hr : rt_V p l e rmX6_turns s m args below meth c D A 4 Q cX6_turns (wM cy ad res)) : ∀ (x2 : Int32) (x3 : Int32) (σ : St_), fX6_turns_71  x2 x3 σ = some res → vv_ p l e rmX6_turns s m args below meth c D A 4 Q 0 0 (wM cy ad σ) [(0, .ref (ad 29)), (2, .int x2), (3, .int x3)] 71 [] := by
  intro x2 x3 σ hF
  replace hF : ((gd_ ((10 * x3) + x2) 100 fun j10 => (gd_ x3 10 fun j11 => (gd_ x3 10 fun j12 => some (uM (uM σ 22 j10 (vp_nar .boolean 1)) 23 j12 ((sM (uM σ 22 j10 (vp_nar .boolean 1)) 23 j11) + 1))))) : Option St_) = some res := hF
  refine vv_aload_n C dX6_turns_71 0 rfl ?_
  refine vv_get (v := .ref (ad 22)) C (hi_X6_turns_X6) 25 (wM_g29 cy ad _) rfl 22 (by decide) (List.mem_of_getElem? (i := 4) rfl) rfl dX6_turns_72 ?_
  refine vv_bipush (v := 10) C dX6_turns_75 (by decide) ?_
  refine vv_iload_n C dX6_turns_77 2 rfl ?_
  refine vv_imul C dX6_turns_78 ?_
  refine vv_iload_n C dX6_turns_79 1 rfl ?_
  refine vv_iadd C dX6_turns_80 ?_
  refine vv_iconst (v := 1) C dX6_turns_81 (by decide) ?_
  refine vv_zast (w' := fun j10 => (wM cy ad (uM σ 22 j10 (vp_nar .boolean 1)))) C 18 1 (wM_g22 cy ad _) (tysW_1 cy) hF dX6_turns_82 (fun _ => wM_a22 _ _ _ _) (fun j10 hj10 hF => ?_)
  refine vv_aload_n C dX6_turns_83 0 rfl ?_
  refine vv_get (v := .ref (ad 23)) C (hi_X6_turns_X6) 25 (wM_g29 cy ad _) rfl 23 (by decide) (List.mem_of_getElem? (i := 5) rfl) rfl dX6_turns_84 ?_
  refine vv_iload_n C dX6_turns_87 2 rfl ?_
  refine vv_dup2 C dX6_turns_88 rfl rfl ?_
  refine vv_iald C 19 0 (wM_g23 cy ad _) (tysW_0 cy) hF dX6_turns_89 (fun j11 hj11 hF => ?_)
  refine vv_iconst (v := 1) C dX6_turns_90 (by decide) ?_
  refine vv_iadd C dX6_turns_91 ?_
  refine vv_iast (w' := fun j12 => (wM cy ad (uM (uM σ 22 j10 (vp_nar .boolean 1)) 23 j12 ((sM (uM σ 22 j10 (vp_nar .boolean 1)) 23 j11) + 1)))) C 19 0 (wM_g23 cy ad _) (tysW_0 cy) hF dX6_turns_92 (fun _ => wM_a23 _ _ _ _) (fun j12 hj12 hF => ?_)
  cases hF
  exact hr _ _ dX6_turns_93
set_option maxHeartbeats 4000000 in
set_option maxRecDepth 20000 in
theorem vX6_turns_19 {p : Program} {l : Launch} {e : Env} {s : State} {m : MethodId} {args : Array Value} {below : List Frame} {meth : Method} {c : Code} {D : va_G} {A : Nat → Prop} {Q : State → Prop} {cy : Nat → ClassId} {ad : Nat → Nat} {res : St_} (C : vv_X p s m args meth c D (tysW cy) A 4 cX6_turns RX6 wsX6_turns) (h0 : en_T A s) (hr : rt_V p l e rmX6_turns s m args below meth c D A 4 Q cX6_turns (wM cy ad res)) : ∀ (n : Nat) (x2 : Int32) (x3 : Int32) (σ : St_), fX6_turns_19  n x2 x3 σ = some res → vv_ p l e rmX6_turns s m args below meth c D A 4 Q 0 0 (wM cy ad σ) [(0, .ref (ad 29)), (2, .int x2), (3, .int x3)] 19 [] := by
  intro n
  induction n with
  | zero =>
    intro x2 x3 σ hF
    cases (show none = some res from hF)
  | succ n ih =>
    intro x2 x3 σ hF
    replace hF : ((gd_ x3 10 fun j4 => (if (sM σ 25 j4) = 10 then fX6_turns_71  x2 x3 σ else (gd_ ((10 * x3) + x2) 100 fun j5 => (gd_ x3 10 fun j6 => (gd_ ((10 * x3) + (sM (uM σ 22 j5 (vp_nar .boolean 1)) 25 j6)) 100 fun j7 => (gd_ (sM (uM σ 22 j5 (vp_nar .boolean 1)) 25 j6) 10 fun j8 => fX6_turns_19  n (sM (uM σ 22 j5 (vp_nar .boolean 1)) 25 j6) (sM (uM (uM σ 22 j5 (vp_nar .boolean 1)) 22 j7 (vp_nar .boolean 0)) 26 j8) (uM (uM σ 22 j5 (vp_nar .boolean 1)) 22 j7 (vp_nar .boolean 0)))))))) : Option St_) = some res := hF
    refine vv_aload_n C dX6_turns_19 0 rfl ?_
    refine vv_get (v := .ref (ad 25)) C (hi_X6_turns_X6) 25 (wM_g29 cy ad _) rfl 25 (by decide) (List.mem_of_getElem? (i := 3) rfl) rfl dX6_turns_20 ?_
    refine vv_iload_n C dX6_turns_23 2 rfl ?_
    refine vv_iald C 21 0 (wM_g25 cy ad _) (tysW_0 cy) hF dX6_turns_24 (fun j4 hj4 hF => ?_)
    refine vv_bipush (v := 10) C dX6_turns_25 (by decide) ?_
    refine vv_icmp_eq (tgt := 71) C dX6_turns_27 (by decide) hF (fun c9 hF => ?_) (fun c9 hF => ?_)
    · refine vv_lv [0, 1, 2] rfl ?_
      exact vX6_turns_71 C h0 hr  x2 x3 σ  hF
    · refine vv_aload_n C dX6_turns_30 0 rfl ?_
      refine vv_get (v := .ref (ad 22)) C (hi_X6_turns_X6) 25 (wM_g29 cy ad _) rfl 22 (by decide) (List.mem_of_getElem? (i := 4) rfl) rfl dX6_turns_31 ?_
      refine vv_bipush (v := 10) C dX6_turns_34 (by decide) ?_
      refine vv_iload_n C dX6_turns_36 2 rfl ?_
      refine vv_imul C dX6_turns_37 ?_
      refine vv_iload_n C dX6_turns_38 1 rfl ?_
      refine vv_iadd C dX6_turns_39 ?_
      refine vv_iconst (v := 1) C dX6_turns_40 (by decide) ?_
      refine vv_zast (w' := fun j5 => (wM cy ad (uM σ 22 j5 (vp_nar .boolean 1)))) C 18 1 (wM_g22 cy ad _) (tysW_1 cy) hF dX6_turns_41 (fun _ => wM_a22 _ _ _ _) (fun j5 hj5 hF => ?_)
      refine vv_aload_n C dX6_turns_42 0 rfl ?_
      refine vv_get (v := .ref (ad 25)) C (hi_X6_turns_X6) 25 (wM_g29 cy ad _) rfl 25 (by decide) (List.mem_of_getElem? (i := 3) rfl) rfl dX6_turns_43 ?_
      refine vv_iload_n C dX6_turns_46 2 rfl ?_
      refine vv_iald C 21 0 (wM_g25 cy ad _) (tysW_0 cy) hF dX6_turns_47 (fun j6 hj6 hF => ?_)
      refine vv_istore_n (lv' := [(2, .int (sM (uM σ 22 j5 (vp_nar .boolean 1)) 25 j6)), (0, .ref (ad 29)), (3, .int x3)]) C dX6_turns_48 (by decide) rfl ?_
      refine vv_aload_n C dX6_turns_49 1 rfl ?_
      refine vv_get (v := .ref (ad 22)) C (hi_X6_turns_X6) 25 (wM_g29 cy ad _) rfl 22 (by decide) (List.mem_of_getElem? (i := 4) rfl) rfl dX6_turns_50 ?_
      refine vv_bipush (v := 10) C dX6_turns_53 (by decide) ?_
      refine vv_iload_n C dX6_turns_55 2 rfl ?_
      refine vv_imul C dX6_turns_56 ?_
      refine vv_iload_n C dX6_turns_57 0 rfl ?_
      refine vv_iadd C dX6_turns_58 ?_
      refine vv_iconst (v := 0) C dX6_turns_59 (by decide) ?_
      refine vv_zast (w' := fun j7 => (wM cy ad (uM (uM σ 22 j5 (vp_nar .boolean 1)) 22 j7 (vp_nar .boolean 0)))) C 18 1 (wM_g22 cy ad _) (tysW_1 cy) hF dX6_turns_60 (fun _ => wM_a22 _ _ _ _) (fun j7 hj7 hF => ?_)
      refine vv_aload_n C dX6_turns_61 1 rfl ?_
      refine vv_get (v := .ref (ad 26)) C (hi_X6_turns_X6) 25 (wM_g29 cy ad _) rfl 26 (by decide) (List.mem_of_getElem? (i := 2) rfl) rfl dX6_turns_62 ?_
      refine vv_iload_n C dX6_turns_65 0 rfl ?_
      refine vv_iald C 22 0 (wM_g26 cy ad _) (tysW_0 cy) hF dX6_turns_66 (fun j8 hj8 hF => ?_)
      refine vv_istore_n (lv' := [(3, .int (sM (uM (uM σ 22 j5 (vp_nar .boolean 1)) 22 j7 (vp_nar .boolean 0)) 26 j8)), (2, .int (sM (uM σ 22 j5 (vp_nar .boolean 1)) 25 j6)), (0, .ref (ad 29))]) C dX6_turns_67 (by decide) rfl ?_
      refine vv_goto (tgt := 19) C dX6_turns_68 (by decide) ?_
      refine vv_lv [2, 1, 0] rfl ?_
      exact ih (sM (uM σ 22 j5 (vp_nar .boolean 1)) 25 j6) (sM (uM (uM σ 22 j5 (vp_nar .boolean 1)) 22 j7 (vp_nar .boolean 0)) 26 j8) (uM (uM σ 22 j5 (vp_nar .boolean 1)) 22 j7 (vp_nar .boolean 0))  hF
set_option maxHeartbeats 4000000 in
set_option maxRecDepth 20000 in
theorem kX6_turns (l : Launch) (D : va_G) (cy : Nat → ClassId) (ad : Nat → Nat) (x1 : Int32) (σ : St_) (res : St_)  (hF : fX6_turns x1 σ = some res) : ct_V l D (tysW cy) en_T yX6_turns wsX6_turns rmX6_turns [.ref (ad 29), .int x1] (wM cy ad σ) (wM cy ad res) := by
  refine mt_V (by decide) rfl (Nat.le_of_ble_eq_true rfl) ?_
  intro p e s m args below meth c A Q C h0 hr
  replace C : vv_X p s m args meth c D (tysW cy) A 4 cX6_turns RX6 wsX6_turns := C
  replace hF : ((gd_ x1 10 fun j1 => (gd_ x1 10 fun j2 => (gd_ x1 10 fun j3 => fX6_turns_19  FU_ x1 (sM (uM σ 24 j2 ((sM σ 24 j1) + 1)) 26 j3) (uM σ 24 j2 ((sM σ 24 j1) + 1))))) : Option St_) = some res := hF
  refine vv_lv [0, 1] (lv' := [(0, .ref (ad 29)), (1, .int x1)]) rfl ?_
  refine vv_aload_n C dX6_turns_0 0 rfl ?_
  refine vv_get (v := .ref (ad 24)) C (hi_X6_turns_X6) 25 (wM_g29 cy ad _) rfl 24 (by decide) (List.mem_of_getElem? (i := 1) rfl) rfl dX6_turns_1 ?_
  refine vv_iload_n C dX6_turns_4 1 rfl ?_
  refine vv_dup2 C dX6_turns_5 rfl rfl ?_
  refine vv_iald C 20 0 (wM_g24 cy ad _) (tysW_0 cy) hF dX6_turns_6 (fun j1 hj1 hF => ?_)
  refine vv_iconst (v := 1) C dX6_turns_7 (by decide) ?_
  refine vv_iadd C dX6_turns_8 ?_
  refine vv_iast (w' := fun j2 => (wM cy ad (uM σ 24 j2 ((sM σ 24 j1) + 1)))) C 20 0 (wM_g24 cy ad _) (tysW_0 cy) hF dX6_turns_9 (fun _ => wM_a24 _ _ _ _) (fun j2 hj2 hF => ?_)
  refine vv_iload_n C dX6_turns_10 1 rfl ?_
  refine vv_istore_n (lv' := [(2, .int x1), (0, .ref (ad 29)), (1, .int x1)]) C dX6_turns_11 (by decide) rfl ?_
  refine vv_aload_n C dX6_turns_12 1 rfl ?_
  refine vv_get (v := .ref (ad 26)) C (hi_X6_turns_X6) 25 (wM_g29 cy ad _) rfl 26 (by decide) (List.mem_of_getElem? (i := 2) rfl) rfl dX6_turns_13 ?_
  refine vv_iload_n C dX6_turns_16 0 rfl ?_
  refine vv_iald C 22 0 (wM_g26 cy ad _) (tysW_0 cy) hF dX6_turns_17 (fun j3 hj3 hF => ?_)
  refine vv_istore_n (lv' := [(3, .int (sM (uM σ 24 j2 ((sM σ 24 j1) + 1)) 26 j3)), (2, .int x1), (0, .ref (ad 29)), (1, .int x1)]) C dX6_turns_18 (by decide) rfl ?_
  refine vv_lv [2, 1, 0] rfl ?_
  exact vX6_turns_19 C h0 hr  FU_ x1 (sM (uM σ 24 j2 ((sM σ 24 j1) + 1)) 26 j3) (uM σ 24 j2 ((sM σ 24 j1) + 1))  hF
/-! X6_grows -/
abbrev rmX6_grows : Room := { frames := 1, cells := 0, slots := 0, locals := 23 }
theorem hi_X6_grows_X6 : ∀ w ∈ wsX60, w ∈ wsX6_grows := fun w h => List.mem_cons_of_mem _ (List.mem_append_right _ h)
def fX6_grows_76 (k32 : Int32 → Int32 → St_ → Option (Int32 × St_)) (x1 : Int32) (x2 : Int32) (σ : St_) : Option (Int32 × St_) := k32 x1 (x2 + 1) σ
def fX6_grows_182 (x4 : Int32) (σ : St_) : Option (Int32 × St_) := (bn_ (fX6_turns x4 σ) fun r34 => some (1, r34))
def fX6_grows_204 (k84 : Int32 → Int32 → St_ → Option (Int32 × St_)) (k105 : Int32 → Int32 → Int32 → Int32 → St_ → Option (Int32 × St_)) (x1 : Int32) (x2 : Int32) (x3 : Int32) (x4 : Int32) (σ : St_) : Option (Int32 × St_) := k105 x1 x2 x3 (x4 + 1) σ
def fX6_grows_303 (k84 : Int32 → Int32 → St_ → Option (Int32 × St_)) (x1 : Int32) (x2 : Int32) (σ : St_) : Option (Int32 × St_) := k84 x1 (x2 + 1) σ
def fX6_grows_210 (k84 : Int32 → Int32 → St_ → Option (Int32 × St_)) (x1 : Int32) (x2 : Int32) (σ : St_) : Option (Int32 × St_) := fX6_grows_303 (k84) x1 x2 σ
def fX6_grows_105 (k84 : Int32 → Int32 → St_ → Option (Int32 × St_)) : Nat → Int32 → Int32 → Int32 → Int32 → St_ → Option (Int32 × St_)
  | 0, _, _, _, _, _ => none
  | n + 1, x1, x2, x3, x4, σ => (if (sS σ 2) ≤ x4 then fX6_grows_210 (k84) x1 x2 σ else (gd_ x4 10 fun j22 => (if (sM σ 26 j22) = (-1) then (gd_ ((10 * x3) + x4) 100 fun j23 => (if (sM σ 21 j23) = 0 then fX6_grows_204 (k84) (fX6_grows_105 k84 n) x1 x2 x3 x4 σ else (gd_ ((10 * x3) + x4) 100 fun j24 => (if (sM σ 22 j24) = 0 then (gd_ x4 10 fun j25 => (gd_ x4 10 fun j26 => (gd_ 0 6 fun j27 => (if (sM (uM σ 26 j25 x3) 5 j27) ≤ (sM (uM σ 26 j25 x3) 24 j26) then (gd_ x1 20 fun j28 => fX6_grows_204 (k84) (fX6_grows_105 k84 n) (x1 + 1) x2 x3 x4 (uM (uM σ 26 j25 x3) 27 j28 (10 + x4))) else fX6_grows_182  x4 (uM σ 26 j25 x3))))) else fX6_grows_204 (k84) (fX6_grows_105 k84 n) x1 x2 x3 x4 σ)))) else fX6_grows_204 (k84) (fX6_grows_105 k84 n) x1 x2 x3 x4 σ)))
def fX6_grows_297 (k84 : Int32 → Int32 → St_ → Option (Int32 × St_)) (k222 : Int32 → Int32 → Int32 → Int32 → St_ → Option (Int32 × St_)) (x1 : Int32) (x2 : Int32) (x4 : Int32) (x5 : Int32) (σ : St_) : Option (Int32 × St_) := k222 x1 x2 x4 (x5 + 1) σ
def fX6_grows_222 (k84 : Int32 → Int32 → St_ → Option (Int32 × St_)) : Nat → Int32 → Int32 → Int32 → Int32 → St_ → Option (Int32 × St_)
  | 0, _, _, _, _, _ => none
  | n + 1, x1, x2, x4, x5, σ => (if (sS σ 2) ≤ x5 then fX6_grows_303 (k84) x1 x2 σ else (gd_ x5 10 fun j13 => (if (sM σ 25 j13) = (-1) then (gd_ ((10 * x5) + x4) 100 fun j14 => (if (sM σ 21 j14) = 0 then fX6_grows_297 (k84) (fX6_grows_222 k84 n) x1 x2 x4 x5 σ else (gd_ ((10 * x5) + x4) 100 fun j15 => (if (sM σ 22 j15) = 0 then fX6_grows_297 (k84) (fX6_grows_222 k84 n) x1 x2 x4 x5 σ else (gd_ x5 10 fun j16 => (gd_ x1 20 fun j17 => fX6_grows_297 (k84) (fX6_grows_222 k84 n) (x1 + 1) x2 x4 x5 (uM (uM σ 25 j16 x4) 27 j17 x5))))))) else fX6_grows_297 (k84) (fX6_grows_222 k84 n) x1 x2 x4 x5 σ)))
def fX6_grows_84 : Nat → Int32 → Int32 → St_ → Option (Int32 × St_)
  | 0, _, _, _ => none
  | n + 1, x1, x2, σ => (if x1 ≤ x2 then some (0, σ) else (gd_ x2 20 fun j10 => (if 10 ≤ (sM σ 27 j10) then fX6_grows_222 (fX6_grows_84  n) FU_ x1 x2 ((sM σ 27 j10) - 10) 0 σ else fX6_grows_105 (fX6_grows_84  n) FU_ x1 x2 (sM σ 27 j10) 0 σ)))
def fX6_grows_82 (x1 : Int32) (σ : St_) : Option (Int32 × St_) := fX6_grows_84  FU_ x1 0 σ
def fX6_grows_32 : Nat → Int32 → Int32 → St_ → Option (Int32 × St_)
  | 0, _, _, _ => none
  | n + 1, x1, x2, σ => (if (sS σ 2) ≤ x2 then fX6_grows_82  x1 σ else (gd_ x2 10 fun j4 => (gd_ 1 6 fun j5 => (if (sM σ 23 j4) < (sM σ 5 j5) then (gd_ x2 10 fun j6 => (gd_ x1 20 fun j7 => fX6_grows_76 (fX6_grows_32  n) (x1 + 1) x2 (uM (uM σ 25 j6 10) 27 j7 x2))) else fX6_grows_76 (fX6_grows_32  n) x1 x2 σ))))
def fX6_grows_30 (x1 : Int32) (σ : St_) : Option (Int32 × St_) := fX6_grows_32  FU_ x1 0 σ
def fX6_grows_4 : Nat → Int32 → Int32 → St_ → Option (Int32 × St_)
  | 0, _, _, _ => none
  | n + 1, x1, x2, σ => (if 10 ≤ x2 then fX6_grows_30  x1 σ else (gd_ x2 10 fun j1 => (gd_ x2 10 fun j2 => fX6_grows_4  n x1 (x2 + 1) (uM (uM σ 25 j1 (-1)) 26 j2 (-1)))))
def fX6_grows (σ : St_) : Option (Int32 × St_) := fX6_grows_4  FU_ 0 0 σ
set_option maxHeartbeats 4000000 in
set_option maxRecDepth 20000 in
theorem vX6_grows_76 {p : Program} {l : Launch} {e : Env} {s : State} {m : MethodId} {args : Array Value} {below : List Frame} {meth : Method} {c : Code} {D : va_G} {A : Nat → Prop} {Q : State → Prop} {cy : Nat → ClassId} {ad : Nat → Nat} {k32 : Int32 → Int32 → St_ → Option (Int32 × St_)} {res : Int32 × St_} (C : vv_X p s m args meth c D (tysW cy) A 6 cX6_grows RX6 wsX6_grows) (h0 : en_T A s) (hr : rt_I p l e rmX6_grows s m args below meth c D A 6 Q cX6_grows .boolean (wM cy ad res.2) res.1) (hk32 : ∀ (x1 : Int32) (x2 : Int32) (σ : St_), k32 x1 x2 σ = some res → vv_ p l e rmX6_grows s m args below meth c D A 6 Q 0 0 (wM cy ad σ) [(0, .ref (ad 29)), (1, .int x1), (2, .int x2)] 32 []) : ∀ (x1 : Int32) (x2 : Int32) (σ : St_), fX6_grows_76 k32 x1 x2 σ = some res → vv_ p l e rmX6_grows s m args below meth c D A 6 Q 0 0 (wM cy ad σ) [(0, .ref (ad 29)), (1, .int x1), (2, .int x2)] 76 [] := by
  intro x1 x2 σ hF
  replace hF : (k32 x1 (x2 + 1) σ : Option (Int32 × St_)) = some res := hF
  refine vv_iinc (q := 2) (v := x2 + 1) (lv' := [(2, .int (x2 + 1)), (0, .ref (ad 29)), (1, .int x1)]) C dX6_grows_76 rfl rfl (by decide) rfl ?_
  refine vv_goto (tgt := 32) C dX6_grows_79 (by decide) ?_
  refine vv_lv [1, 2, 0] rfl ?_
  exact hk32 x1 (x2 + 1) σ  hF
set_option maxHeartbeats 4000000 in
set_option maxRecDepth 20000 in
theorem vX6_grows_182 {p : Program} {l : Launch} {e : Env} {s : State} {m : MethodId} {args : Array Value} {below : List Frame} {meth : Method} {c : Code} {D : va_G} {A : Nat → Prop} {Q : State → Prop} {cy : Nat → ClassId} {ad : Nat → Nat} {res : Int32 × St_} (C : vv_X p s m args meth c D (tysW cy) A 6 cX6_grows RX6 wsX6_grows) (h0 : en_T A s) (hr : rt_I p l e rmX6_grows s m args below meth c D A 6 Q cX6_grows .boolean (wM cy ad res.2) res.1) : ∀ (x4 : Int32) (σ : St_), fX6_grows_182  x4 σ = some res → vv_ p l e rmX6_grows s m args below meth c D A 6 Q 0 0 (wM cy ad σ) [(0, .ref (ad 29)), (4, .int x4)] 182 [] := by
  intro x4 σ hF
  replace hF : ((bn_ (fX6_turns x4 σ) fun r34 => some (1, r34)) : Option (Int32 × St_)) = some res := hF
  refine vv_aload_n C dX6_grows_182 0 rfl ?_
  refine vv_iload C dX6_grows_183 1 rfl ?_
  refine vv_callVv  (fun r34 => (wM cy ad r34)) C en_ok h0 [.int x4] [] 1 hF (fun r34 hr34 => kX6_turns l D cy ad x4 σ r34  hr34) gX6_grows_X6_turns rfl rfl rfl (by decide +kernel) ⟨by decide, by decide⟩ 25 (wM_g29 cy ad _) rfl rfl rfl (Nat.le_of_ble_eq_true rfl) dX6_grows_185 ⟨by decide, by decide⟩ (fun r34 hqr34 hF => ?_)
  refine vv_iconst (v := 1) C dX6_grows_188 (by decide) ?_
  cases hF
  exact hr _ _ dX6_grows_189 nb_Z1
set_option maxHeartbeats 4000000 in
set_option maxRecDepth 20000 in
theorem vX6_grows_204 {p : Program} {l : Launch} {e : Env} {s : State} {m : MethodId} {args : Array Value} {below : List Frame} {meth : Method} {c : Code} {D : va_G} {A : Nat → Prop} {Q : State → Prop} {cy : Nat → ClassId} {ad : Nat → Nat} {k84 : Int32 → Int32 → St_ → Option (Int32 × St_)} {k105 : Int32 → Int32 → Int32 → Int32 → St_ → Option (Int32 × St_)} {res : Int32 × St_} (C : vv_X p s m args meth c D (tysW cy) A 6 cX6_grows RX6 wsX6_grows) (h0 : en_T A s) (hr : rt_I p l e rmX6_grows s m args below meth c D A 6 Q cX6_grows .boolean (wM cy ad res.2) res.1) (hk84 : ∀ (x1 : Int32) (x2 : Int32) (σ : St_), k84 x1 x2 σ = some res → vv_ p l e rmX6_grows s m args below meth c D A 6 Q 0 0 (wM cy ad σ) [(0, .ref (ad 29)), (1, .int x1), (2, .int x2)] 84 []) (hk105 : ∀ (x1 : Int32) (x2 : Int32) (x3 : Int32) (x4 : Int32) (σ : St_), k105 x1 x2 x3 x4 σ = some res → vv_ p l e rmX6_grows s m args below meth c D A 6 Q 0 0 (wM cy ad σ) [(0, .ref (ad 29)), (1, .int x1), (2, .int x2), (3, .int x3), (4, .int x4)] 105 []) : ∀ (x1 : Int32) (x2 : Int32) (x3 : Int32) (x4 : Int32) (σ : St_), fX6_grows_204 k84 k105 x1 x2 x3 x4 σ = some res → vv_ p l e rmX6_grows s m args below meth c D A 6 Q 0 0 (wM cy ad σ) [(0, .ref (ad 29)), (1, .int x1), (2, .int x2), (3, .int x3), (4, .int x4)] 204 [] := by
  intro x1 x2 x3 x4 σ hF
  replace hF : (k105 x1 x2 x3 (x4 + 1) σ : Option (Int32 × St_)) = some res := hF
  refine vv_iinc (q := 4) (v := x4 + 1) (lv' := [(4, .int (x4 + 1)), (0, .ref (ad 29)), (1, .int x1), (2, .int x2), (3, .int x3)]) C dX6_grows_204 rfl rfl (by decide) rfl ?_
  refine vv_goto (tgt := 105) C dX6_grows_207 (by decide) ?_
  refine vv_lv [1, 2, 3, 4, 0] rfl ?_
  exact hk105 x1 x2 x3 (x4 + 1) σ  hF
set_option maxHeartbeats 4000000 in
set_option maxRecDepth 20000 in
theorem vX6_grows_303 {p : Program} {l : Launch} {e : Env} {s : State} {m : MethodId} {args : Array Value} {below : List Frame} {meth : Method} {c : Code} {D : va_G} {A : Nat → Prop} {Q : State → Prop} {cy : Nat → ClassId} {ad : Nat → Nat} {k84 : Int32 → Int32 → St_ → Option (Int32 × St_)} {res : Int32 × St_} (C : vv_X p s m args meth c D (tysW cy) A 6 cX6_grows RX6 wsX6_grows) (h0 : en_T A s) (hr : rt_I p l e rmX6_grows s m args below meth c D A 6 Q cX6_grows .boolean (wM cy ad res.2) res.1) (hk84 : ∀ (x1 : Int32) (x2 : Int32) (σ : St_), k84 x1 x2 σ = some res → vv_ p l e rmX6_grows s m args below meth c D A 6 Q 0 0 (wM cy ad σ) [(0, .ref (ad 29)), (1, .int x1), (2, .int x2)] 84 []) : ∀ (x1 : Int32) (x2 : Int32) (σ : St_), fX6_grows_303 k84 x1 x2 σ = some res → vv_ p l e rmX6_grows s m args below meth c D A 6 Q 0 0 (wM cy ad σ) [(0, .ref (ad 29)), (1, .int x1), (2, .int x2)] 303 [] := by
  intro x1 x2 σ hF
  replace hF : (k84 x1 (x2 + 1) σ : Option (Int32 × St_)) = some res := hF
  refine vv_iinc (q := 2) (v := x2 + 1) (lv' := [(2, .int (x2 + 1)), (0, .ref (ad 29)), (1, .int x1)]) C dX6_grows_303 rfl rfl (by decide) rfl ?_
  refine vv_goto (tgt := 84) C dX6_grows_306 (by decide) ?_
  refine vv_lv [1, 2, 0] rfl ?_
  exact hk84 x1 (x2 + 1) σ  hF
set_option maxHeartbeats 4000000 in
set_option maxRecDepth 20000 in
theorem vX6_grows_210 {p : Program} {l : Launch} {e : Env} {s : State} {m : MethodId} {args : Array Value} {below : List Frame} {meth : Method} {c : Code} {D : va_G} {A : Nat → Prop} {Q : State → Prop} {cy : Nat → ClassId} {ad : Nat → Nat} {k84 : Int32 → Int32 → St_ → Option (Int32 × St_)} {res : Int32 × St_} (C : vv_X p s m args meth c D (tysW cy) A 6 cX6_grows RX6 wsX6_grows) (h0 : en_T A s) (hr : rt_I p l e rmX6_grows s m args below meth c D A 6 Q cX6_grows .boolean (wM cy ad res.2) res.1) (hk84 : ∀ (x1 : Int32) (x2 : Int32) (σ : St_), k84 x1 x2 σ = some res → vv_ p l e rmX6_grows s m args below meth c D A 6 Q 0 0 (wM cy ad σ) [(0, .ref (ad 29)), (1, .int x1), (2, .int x2)] 84 []) : ∀ (x1 : Int32) (x2 : Int32) (σ : St_), fX6_grows_210 k84 x1 x2 σ = some res → vv_ p l e rmX6_grows s m args below meth c D A 6 Q 0 0 (wM cy ad σ) [(0, .ref (ad 29)), (1, .int x1), (2, .int x2)] 210 [] := by
  intro x1 x2 σ hF
  replace hF : (fX6_grows_303 (k84) x1 x2 σ : Option (Int32 × St_)) = some res := hF
  refine vv_goto (tgt := 303) C dX6_grows_210 (by decide) ?_
  refine vv_lv [0, 1, 2] rfl ?_
  exact vX6_grows_303 C h0 hr (hk84) x1 x2 σ  hF
set_option maxHeartbeats 4000000 in
set_option maxRecDepth 20000 in
theorem vX6_grows_105 {p : Program} {l : Launch} {e : Env} {s : State} {m : MethodId} {args : Array Value} {below : List Frame} {meth : Method} {c : Code} {D : va_G} {A : Nat → Prop} {Q : State → Prop} {cy : Nat → ClassId} {ad : Nat → Nat} {k84 : Int32 → Int32 → St_ → Option (Int32 × St_)} {res : Int32 × St_} (C : vv_X p s m args meth c D (tysW cy) A 6 cX6_grows RX6 wsX6_grows) (h0 : en_T A s) (hr : rt_I p l e rmX6_grows s m args below meth c D A 6 Q cX6_grows .boolean (wM cy ad res.2) res.1) (hk84 : ∀ (x1 : Int32) (x2 : Int32) (σ : St_), k84 x1 x2 σ = some res → vv_ p l e rmX6_grows s m args below meth c D A 6 Q 0 0 (wM cy ad σ) [(0, .ref (ad 29)), (1, .int x1), (2, .int x2)] 84 []) : ∀ (n : Nat) (x1 : Int32) (x2 : Int32) (x3 : Int32) (x4 : Int32) (σ : St_), fX6_grows_105 k84 n x1 x2 x3 x4 σ = some res → vv_ p l e rmX6_grows s m args below meth c D A 6 Q 0 0 (wM cy ad σ) [(0, .ref (ad 29)), (1, .int x1), (2, .int x2), (3, .int x3), (4, .int x4)] 105 [] := by
  intro n
  induction n with
  | zero =>
    intro x1 x2 x3 x4 σ hF
    cases (show none = some res from hF)
  | succ n ih =>
    intro x1 x2 x3 x4 σ hF
    replace hF : ((if (sS σ 2) ≤ x4 then fX6_grows_210 (k84) x1 x2 σ else (gd_ x4 10 fun j22 => (if (sM σ 26 j22) = (-1) then (gd_ ((10 * x3) + x4) 100 fun j23 => (if (sM σ 21 j23) = 0 then fX6_grows_204 (k84) (fX6_grows_105 k84 n) x1 x2 x3 x4 σ else (gd_ ((10 * x3) + x4) 100 fun j24 => (if (sM σ 22 j24) = 0 then (gd_ x4 10 fun j25 => (gd_ x4 10 fun j26 => (gd_ 0 6 fun j27 => (if (sM (uM σ 26 j25 x3) 5 j27) ≤ (sM (uM σ 26 j25 x3) 24 j26) then (gd_ x1 20 fun j28 => fX6_grows_204 (k84) (fX6_grows_105 k84 n) (x1 + 1) x2 x3 x4 (uM (uM σ 26 j25 x3) 27 j28 (10 + x4))) else fX6_grows_182  x4 (uM σ 26 j25 x3))))) else fX6_grows_204 (k84) (fX6_grows_105 k84 n) x1 x2 x3 x4 σ)))) else fX6_grows_204 (k84) (fX6_grows_105 k84 n) x1 x2 x3 x4 σ))) : Option (Int32 × St_)) = some res := hF
    refine vv_iload C dX6_grows_105 4 rfl ?_
    refine vv_aload_n C dX6_grows_107 0 rfl ?_
    refine vv_get (v := .int (sS σ 2)) C (hi_X6_grows_X6) 25 (wM_g29 cy ad _) rfl 2 (by decide) (List.mem_of_getElem? (i := 3) rfl) rfl dX6_grows_108 ?_
    refine vv_icmp_ge (tgt := 210) C dX6_grows_111 (by decide) hF (fun c33 hF => ?_) (fun c33 hF => ?_)
    · refine vv_lv [0, 1, 2] rfl ?_
      exact vX6_grows_210 C h0 hr (hk84) x1 x2 σ  hF
    · refine vv_aload_n C dX6_grows_114 0 rfl ?_
      refine vv_get (v := .ref (ad 26)) C (hi_X6_grows_X6) 25 (wM_g29 cy ad _) rfl 26 (by decide) (List.mem_of_getElem? (i := 2) rfl) rfl dX6_grows_115 ?_
      refine vv_iload C dX6_grows_118 4 rfl ?_
      refine vv_iald C 22 0 (wM_g26 cy ad _) (tysW_0 cy) hF dX6_grows_120 (fun j22 hj22 hF => ?_)
      refine vv_iconst (v := (-1)) C dX6_grows_121 (by decide) ?_
      refine vv_icmp_ne (tgt := 204) C dX6_grows_122 (by decide) hF (fun c32 hF => ?_) (fun c32 hF => ?_)
      · refine vv_lv [0, 1, 2, 3, 4] rfl ?_
        exact vX6_grows_204 C h0 hr (hk84) (ih) x1 x2 x3 x4 σ  hF
      · refine vv_aload_n C dX6_grows_125 0 rfl ?_
        refine vv_get (v := .ref (ad 21)) C (hi_X6_grows_X6) 25 (wM_g29 cy ad _) rfl 21 (by decide) (List.mem_of_getElem? (i := 7) rfl) rfl dX6_grows_126 ?_
        refine vv_bipush (v := 10) C dX6_grows_129 (by decide) ?_
        refine vv_iload_n C dX6_grows_131 3 rfl ?_
        refine vv_imul C dX6_grows_132 ?_
        refine vv_iload C dX6_grows_133 4 rfl ?_
        refine vv_iadd C dX6_grows_135 ?_
        refine vv_zald C 17 1 (wM_g21 cy ad _) (tysW_1 cy) hF dX6_grows_136 (fun j23 hj23 hF => ?_)
        refine vv_if_eq (tgt := 204) C dX6_grows_137 (by decide) hF (fun c31 hF => ?_) (fun c31 hF => ?_)
        · refine vv_lv [0, 1, 2, 3, 4] rfl ?_
          exact vX6_grows_204 C h0 hr (hk84) (ih) x1 x2 x3 x4 σ  hF
        · refine vv_aload_n C dX6_grows_140 0 rfl ?_
          refine vv_get (v := .ref (ad 22)) C (hi_X6_grows_X6) 25 (wM_g29 cy ad _) rfl 22 (by decide) (List.mem_of_getElem? (i := 8) rfl) rfl dX6_grows_141 ?_
          refine vv_bipush (v := 10) C dX6_grows_144 (by decide) ?_
          refine vv_iload_n C dX6_grows_146 3 rfl ?_
          refine vv_imul C dX6_grows_147 ?_
          refine vv_iload C dX6_grows_148 4 rfl ?_
          refine vv_iadd C dX6_grows_150 ?_
          refine vv_zald C 18 1 (wM_g22 cy ad _) (tysW_1 cy) hF dX6_grows_151 (fun j24 hj24 hF => ?_)
          refine vv_if_eq (tgt := 158) C dX6_grows_152 (by decide) hF (fun c30 hF => ?_) (fun c30 hF => ?_)
          · refine vv_aload_n C dX6_grows_158 0 rfl ?_
            refine vv_get (v := .ref (ad 26)) C (hi_X6_grows_X6) 25 (wM_g29 cy ad _) rfl 26 (by decide) (List.mem_of_getElem? (i := 2) rfl) rfl dX6_grows_159 ?_
            refine vv_iload C dX6_grows_162 4 rfl ?_
            refine vv_iload_n C dX6_grows_164 3 rfl ?_
            refine vv_iast (w' := fun j25 => (wM cy ad (uM σ 26 j25 x3))) C 22 0 (wM_g26 cy ad _) (tysW_0 cy) hF dX6_grows_165 (fun _ => wM_a26 _ _ _ _) (fun j25 hj25 hF => ?_)
            refine vv_aload_n C dX6_grows_166 0 rfl ?_
            refine vv_get (v := .ref (ad 24)) C (hi_X6_grows_X6) 25 (wM_g29 cy ad _) rfl 24 (by decide) (List.mem_of_getElem? (i := 9) rfl) rfl dX6_grows_167 ?_
            refine vv_iload C dX6_grows_170 4 rfl ?_
            refine vv_iald C 20 0 (wM_g24 cy ad _) (tysW_0 cy) hF dX6_grows_172 (fun j26 hj26 hF => ?_)
            refine vv_aload_n C dX6_grows_173 0 rfl ?_
            refine vv_get (v := .ref (ad 5)) C (hi_X6_grows_X6) 25 (wM_g29 cy ad _) rfl 5 (by decide) (List.mem_of_getElem? (i := 5) rfl) rfl dX6_grows_174 ?_
            refine vv_iconst (v := 0) C dX6_grows_177 (by decide) ?_
            refine vv_iald C 1 0 (wM_g5 cy ad _) (tysW_0 cy) hF dX6_grows_178 (fun j27 hj27 hF => ?_)
            refine vv_icmp_ge (tgt := 190) C dX6_grows_179 (by decide) hF (fun c29 hF => ?_) (fun c29 hF => ?_)
            · refine vv_aload_n C dX6_grows_190 0 rfl ?_
              refine vv_get (v := .ref (ad 27)) C (hi_X6_grows_X6) 25 (wM_g29 cy ad _) rfl 27 (by decide) (List.mem_of_getElem? (i := 6) rfl) rfl dX6_grows_191 ?_
              refine vv_iload_n C dX6_grows_194 1 rfl ?_
              refine vv_bipush (v := 10) C dX6_grows_195 (by decide) ?_
              refine vv_iload C dX6_grows_197 4 rfl ?_
              refine vv_iadd C dX6_grows_199 ?_
              refine vv_iast (w' := fun j28 => (wM cy ad (uM (uM σ 26 j25 x3) 27 j28 (10 + x4)))) C 23 0 (wM_g27 cy ad _) (tysW_0 cy) hF dX6_grows_200 (fun _ => wM_a27 _ _ _ _) (fun j28 hj28 hF => ?_)
              refine vv_iinc (q := 1) (v := x1 + 1) (lv' := [(1, .int (x1 + 1)), (0, .ref (ad 29)), (2, .int x2), (3, .int x3), (4, .int x4)]) C dX6_grows_201 rfl rfl (by decide) rfl ?_
              refine vv_lv [1, 0, 2, 3, 4] rfl ?_
              exact vX6_grows_204 C h0 hr (hk84) (ih) (x1 + 1) x2 x3 x4 (uM (uM σ 26 j25 x3) 27 j28 (10 + x4))  hF
            · refine vv_lv [0, 4] rfl ?_
              exact vX6_grows_182 C h0 hr  x4 (uM σ 26 j25 x3)  hF
          · refine vv_goto (tgt := 204) C dX6_grows_155 (by decide) ?_
            refine vv_lv [0, 1, 2, 3, 4] rfl ?_
            exact vX6_grows_204 C h0 hr (hk84) (ih) x1 x2 x3 x4 σ  hF
set_option maxHeartbeats 4000000 in
set_option maxRecDepth 20000 in
theorem vX6_grows_297 {p : Program} {l : Launch} {e : Env} {s : State} {m : MethodId} {args : Array Value} {below : List Frame} {meth : Method} {c : Code} {D : va_G} {A : Nat → Prop} {Q : State → Prop} {cy : Nat → ClassId} {ad : Nat → Nat} {k84 : Int32 → Int32 → St_ → Option (Int32 × St_)} {k222 : Int32 → Int32 → Int32 → Int32 → St_ → Option (Int32 × St_)} {res : Int32 × St_} (C : vv_X p s m args meth c D (tysW cy) A 6 cX6_grows RX6 wsX6_grows) (h0 : en_T A s) (hr : rt_I p l e rmX6_grows s m args below meth c D A 6 Q cX6_grows .boolean (wM cy ad res.2) res.1) (hk84 : ∀ (x1 : Int32) (x2 : Int32) (σ : St_), k84 x1 x2 σ = some res → vv_ p l e rmX6_grows s m args below meth c D A 6 Q 0 0 (wM cy ad σ) [(0, .ref (ad 29)), (1, .int x1), (2, .int x2)] 84 []) (hk222 : ∀ (x1 : Int32) (x2 : Int32) (x4 : Int32) (x5 : Int32) (σ : St_), k222 x1 x2 x4 x5 σ = some res → vv_ p l e rmX6_grows s m args below meth c D A 6 Q 0 0 (wM cy ad σ) [(0, .ref (ad 29)), (1, .int x1), (2, .int x2), (4, .int x4), (5, .int x5)] 222 []) : ∀ (x1 : Int32) (x2 : Int32) (x4 : Int32) (x5 : Int32) (σ : St_), fX6_grows_297 k84 k222 x1 x2 x4 x5 σ = some res → vv_ p l e rmX6_grows s m args below meth c D A 6 Q 0 0 (wM cy ad σ) [(0, .ref (ad 29)), (1, .int x1), (2, .int x2), (4, .int x4), (5, .int x5)] 297 [] := by
  intro x1 x2 x4 x5 σ hF
  replace hF : (k222 x1 x2 x4 (x5 + 1) σ : Option (Int32 × St_)) = some res := hF
  refine vv_iinc (q := 4) (v := x5 + 1) (lv' := [(5, .int (x5 + 1)), (0, .ref (ad 29)), (1, .int x1), (2, .int x2), (4, .int x4)]) C dX6_grows_297 rfl rfl (by decide) rfl ?_
  refine vv_goto (tgt := 222) C dX6_grows_300 (by decide) ?_
  refine vv_lv [1, 2, 3, 4, 0] rfl ?_
  exact hk222 x1 x2 x4 (x5 + 1) σ  hF
set_option maxHeartbeats 4000000 in
set_option maxRecDepth 20000 in
theorem vX6_grows_222 {p : Program} {l : Launch} {e : Env} {s : State} {m : MethodId} {args : Array Value} {below : List Frame} {meth : Method} {c : Code} {D : va_G} {A : Nat → Prop} {Q : State → Prop} {cy : Nat → ClassId} {ad : Nat → Nat} {k84 : Int32 → Int32 → St_ → Option (Int32 × St_)} {res : Int32 × St_} (C : vv_X p s m args meth c D (tysW cy) A 6 cX6_grows RX6 wsX6_grows) (h0 : en_T A s) (hr : rt_I p l e rmX6_grows s m args below meth c D A 6 Q cX6_grows .boolean (wM cy ad res.2) res.1) (hk84 : ∀ (x1 : Int32) (x2 : Int32) (σ : St_), k84 x1 x2 σ = some res → vv_ p l e rmX6_grows s m args below meth c D A 6 Q 0 0 (wM cy ad σ) [(0, .ref (ad 29)), (1, .int x1), (2, .int x2)] 84 []) : ∀ (n : Nat) (x1 : Int32) (x2 : Int32) (x4 : Int32) (x5 : Int32) (σ : St_), fX6_grows_222 k84 n x1 x2 x4 x5 σ = some res → vv_ p l e rmX6_grows s m args below meth c D A 6 Q 0 0 (wM cy ad σ) [(0, .ref (ad 29)), (1, .int x1), (2, .int x2), (4, .int x4), (5, .int x5)] 222 [] := by
  intro n
  induction n with
  | zero =>
    intro x1 x2 x4 x5 σ hF
    cases (show none = some res from hF)
  | succ n ih =>
    intro x1 x2 x4 x5 σ hF
    replace hF : ((if (sS σ 2) ≤ x5 then fX6_grows_303 (k84) x1 x2 σ else (gd_ x5 10 fun j13 => (if (sM σ 25 j13) = (-1) then (gd_ ((10 * x5) + x4) 100 fun j14 => (if (sM σ 21 j14) = 0 then fX6_grows_297 (k84) (fX6_grows_222 k84 n) x1 x2 x4 x5 σ else (gd_ ((10 * x5) + x4) 100 fun j15 => (if (sM σ 22 j15) = 0 then fX6_grows_297 (k84) (fX6_grows_222 k84 n) x1 x2 x4 x5 σ else (gd_ x5 10 fun j16 => (gd_ x1 20 fun j17 => fX6_grows_297 (k84) (fX6_grows_222 k84 n) (x1 + 1) x2 x4 x5 (uM (uM σ 25 j16 x4) 27 j17 x5))))))) else fX6_grows_297 (k84) (fX6_grows_222 k84 n) x1 x2 x4 x5 σ))) : Option (Int32 × St_)) = some res := hF
    refine vv_iload C dX6_grows_222 4 rfl ?_
    refine vv_aload_n C dX6_grows_224 0 rfl ?_
    refine vv_get (v := .int (sS σ 2)) C (hi_X6_grows_X6) 25 (wM_g29 cy ad _) rfl 2 (by decide) (List.mem_of_getElem? (i := 3) rfl) rfl dX6_grows_225 ?_
    refine vv_icmp_ge (tgt := 303) C dX6_grows_228 (by decide) hF (fun c21 hF => ?_) (fun c21 hF => ?_)
    · refine vv_lv [0, 1, 2] rfl ?_
      exact vX6_grows_303 C h0 hr (hk84) x1 x2 σ  hF
    · refine vv_aload_n C dX6_grows_231 0 rfl ?_
      refine vv_get (v := .ref (ad 25)) C (hi_X6_grows_X6) 25 (wM_g29 cy ad _) rfl 25 (by decide) (List.mem_of_getElem? (i := 1) rfl) rfl dX6_grows_232 ?_
      refine vv_iload C dX6_grows_235 4 rfl ?_
      refine vv_iald C 21 0 (wM_g25 cy ad _) (tysW_0 cy) hF dX6_grows_237 (fun j13 hj13 hF => ?_)
      refine vv_iconst (v := (-1)) C dX6_grows_238 (by decide) ?_
      refine vv_icmp_ne (tgt := 297) C dX6_grows_239 (by decide) hF (fun c20 hF => ?_) (fun c20 hF => ?_)
      · refine vv_lv [0, 1, 2, 3, 4] rfl ?_
        exact vX6_grows_297 C h0 hr (hk84) (ih) x1 x2 x4 x5 σ  hF
      · refine vv_aload_n C dX6_grows_242 0 rfl ?_
        refine vv_get (v := .ref (ad 21)) C (hi_X6_grows_X6) 25 (wM_g29 cy ad _) rfl 21 (by decide) (List.mem_of_getElem? (i := 7) rfl) rfl dX6_grows_243 ?_
        refine vv_bipush (v := 10) C dX6_grows_246 (by decide) ?_
        refine vv_iload C dX6_grows_248 4 rfl ?_
        refine vv_imul C dX6_grows_250 ?_
        refine vv_iload C dX6_grows_251 3 rfl ?_
        refine vv_iadd C dX6_grows_253 ?_
        refine vv_zald C 17 1 (wM_g21 cy ad _) (tysW_1 cy) hF dX6_grows_254 (fun j14 hj14 hF => ?_)
        refine vv_if_eq (tgt := 297) C dX6_grows_255 (by decide) hF (fun c19 hF => ?_) (fun c19 hF => ?_)
        · refine vv_lv [0, 1, 2, 3, 4] rfl ?_
          exact vX6_grows_297 C h0 hr (hk84) (ih) x1 x2 x4 x5 σ  hF
        · refine vv_aload_n C dX6_grows_258 0 rfl ?_
          refine vv_get (v := .ref (ad 22)) C (hi_X6_grows_X6) 25 (wM_g29 cy ad _) rfl 22 (by decide) (List.mem_of_getElem? (i := 8) rfl) rfl dX6_grows_259 ?_
          refine vv_bipush (v := 10) C dX6_grows_262 (by decide) ?_
          refine vv_iload C dX6_grows_264 4 rfl ?_
          refine vv_imul C dX6_grows_266 ?_
          refine vv_iload C dX6_grows_267 3 rfl ?_
          refine vv_iadd C dX6_grows_269 ?_
          refine vv_zald C 18 1 (wM_g22 cy ad _) (tysW_1 cy) hF dX6_grows_270 (fun j15 hj15 hF => ?_)
          refine vv_if_ne (tgt := 277) C dX6_grows_271 (by decide) hF (fun c18 hF => ?_) (fun c18 hF => ?_)
          · refine vv_aload_n C dX6_grows_277 0 rfl ?_
            refine vv_get (v := .ref (ad 25)) C (hi_X6_grows_X6) 25 (wM_g29 cy ad _) rfl 25 (by decide) (List.mem_of_getElem? (i := 1) rfl) rfl dX6_grows_278 ?_
            refine vv_iload C dX6_grows_281 4 rfl ?_
            refine vv_iload C dX6_grows_283 3 rfl ?_
            refine vv_iast (w' := fun j16 => (wM cy ad (uM σ 25 j16 x4))) C 21 0 (wM_g25 cy ad _) (tysW_0 cy) hF dX6_grows_285 (fun _ => wM_a25 _ _ _ _) (fun j16 hj16 hF => ?_)
            refine vv_aload_n C dX6_grows_286 0 rfl ?_
            refine vv_get (v := .ref (ad 27)) C (hi_X6_grows_X6) 25 (wM_g29 cy ad _) rfl 27 (by decide) (List.mem_of_getElem? (i := 6) rfl) rfl dX6_grows_287 ?_
            refine vv_iload_n C dX6_grows_290 1 rfl ?_
            refine vv_iload C dX6_grows_291 4 rfl ?_
            refine vv_iast (w' := fun j17 => (wM cy ad (uM (uM σ 25 j16 x4) 27 j17 x5))) C 23 0 (wM_g27 cy ad _) (tysW_0 cy) hF dX6_grows_293 (fun _ => wM_a27 _ _ _ _) (fun j17 hj17 hF => ?_)
            refine vv_iinc (q := 1) (v := x1 + 1) (lv' := [(1, .int (x1 + 1)), (0, .ref (ad 29)), (2, .int x2), (4, .int x4), (5, .int x5)]) C dX6_grows_294 rfl rfl (by decide) rfl ?_
            refine vv_lv [1, 0, 2, 3, 4] rfl ?_
            exact vX6_grows_297 C h0 hr (hk84) (ih) (x1 + 1) x2 x4 x5 (uM (uM σ 25 j16 x4) 27 j17 x5)  hF
          · refine vv_goto (tgt := 297) C dX6_grows_274 (by decide) ?_
            refine vv_lv [0, 1, 2, 3, 4] rfl ?_
            exact vX6_grows_297 C h0 hr (hk84) (ih) x1 x2 x4 x5 σ  hF
set_option maxHeartbeats 4000000 in
set_option maxRecDepth 20000 in
theorem vX6_grows_84 {p : Program} {l : Launch} {e : Env} {s : State} {m : MethodId} {args : Array Value} {below : List Frame} {meth : Method} {c : Code} {D : va_G} {A : Nat → Prop} {Q : State → Prop} {cy : Nat → ClassId} {ad : Nat → Nat} {res : Int32 × St_} (C : vv_X p s m args meth c D (tysW cy) A 6 cX6_grows RX6 wsX6_grows) (h0 : en_T A s) (hr : rt_I p l e rmX6_grows s m args below meth c D A 6 Q cX6_grows .boolean (wM cy ad res.2) res.1) : ∀ (n : Nat) (x1 : Int32) (x2 : Int32) (σ : St_), fX6_grows_84  n x1 x2 σ = some res → vv_ p l e rmX6_grows s m args below meth c D A 6 Q 0 0 (wM cy ad σ) [(0, .ref (ad 29)), (1, .int x1), (2, .int x2)] 84 [] := by
  intro n
  induction n with
  | zero =>
    intro x1 x2 σ hF
    cases (show none = some res from hF)
  | succ n ih =>
    intro x1 x2 σ hF
    replace hF : ((if x1 ≤ x2 then some (0, σ) else (gd_ x2 20 fun j10 => (if 10 ≤ (sM σ 27 j10) then fX6_grows_222 (fX6_grows_84  n) FU_ x1 x2 ((sM σ 27 j10) - 10) 0 σ else fX6_grows_105 (fX6_grows_84  n) FU_ x1 x2 (sM σ 27 j10) 0 σ))) : Option (Int32 × St_)) = some res := hF
    refine vv_iload_n C dX6_grows_84 2 rfl ?_
    refine vv_iload_n C dX6_grows_85 1 rfl ?_
    refine vv_icmp_ge (tgt := 309) C dX6_grows_86 (by decide) hF (fun c12 hF => ?_) (fun c12 hF => ?_)
    · refine vv_iconst (v := 0) C dX6_grows_309 (by decide) ?_
      cases hF
      exact hr _ _ dX6_grows_310 nb_Z0
    · refine vv_aload_n C dX6_grows_89 0 rfl ?_
      refine vv_get (v := .ref (ad 27)) C (hi_X6_grows_X6) 25 (wM_g29 cy ad _) rfl 27 (by decide) (List.mem_of_getElem? (i := 6) rfl) rfl dX6_grows_90 ?_
      refine vv_iload_n C dX6_grows_93 2 rfl ?_
      refine vv_iald C 23 0 (wM_g27 cy ad _) (tysW_0 cy) hF dX6_grows_94 (fun j10 hj10 hF => ?_)
      refine vv_istore_n (lv' := [(3, .int (sM σ 27 j10)), (0, .ref (ad 29)), (1, .int x1), (2, .int x2)]) C dX6_grows_95 (by decide) rfl ?_
      refine vv_iload_n C dX6_grows_96 0 rfl ?_
      refine vv_bipush (v := 10) C dX6_grows_97 (by decide) ?_
      refine vv_icmp_ge (tgt := 213) C dX6_grows_99 (by decide) hF (fun c11 hF => ?_) (fun c11 hF => ?_)
      · refine vv_iload_n C dX6_grows_213 0 rfl ?_
        refine vv_bipush (v := 10) C dX6_grows_214 (by decide) ?_
        refine vv_isub C dX6_grows_216 ?_
        refine vv_istore (lv' := [(4, .int ((sM σ 27 j10) - 10)), (3, .int (sM σ 27 j10)), (0, .ref (ad 29)), (1, .int x1), (2, .int x2)]) C dX6_grows_217 (by decide) rfl ?_
        refine vv_iconst (v := 0) C dX6_grows_219 (by decide) ?_
        refine vv_istore (lv' := [(5, .int 0), (4, .int ((sM σ 27 j10) - 10)), (3, .int (sM σ 27 j10)), (0, .ref (ad 29)), (1, .int x1), (2, .int x2)]) C dX6_grows_220 (by decide) rfl ?_
        refine vv_lv [3, 4, 5, 1, 0] rfl ?_
        exact vX6_grows_222 C h0 hr (ih) FU_ x1 x2 ((sM σ 27 j10) - 10) 0 σ  hF
      · refine vv_iconst (v := 0) C dX6_grows_102 (by decide) ?_
        refine vv_istore (lv' := [(4, .int 0), (3, .int (sM σ 27 j10)), (0, .ref (ad 29)), (1, .int x1), (2, .int x2)]) C dX6_grows_103 (by decide) rfl ?_
        refine vv_lv [2, 3, 4, 1, 0] rfl ?_
        exact vX6_grows_105 C h0 hr (ih) FU_ x1 x2 (sM σ 27 j10) 0 σ  hF
set_option maxHeartbeats 4000000 in
set_option maxRecDepth 20000 in
theorem vX6_grows_82 {p : Program} {l : Launch} {e : Env} {s : State} {m : MethodId} {args : Array Value} {below : List Frame} {meth : Method} {c : Code} {D : va_G} {A : Nat → Prop} {Q : State → Prop} {cy : Nat → ClassId} {ad : Nat → Nat} {res : Int32 × St_} (C : vv_X p s m args meth c D (tysW cy) A 6 cX6_grows RX6 wsX6_grows) (h0 : en_T A s) (hr : rt_I p l e rmX6_grows s m args below meth c D A 6 Q cX6_grows .boolean (wM cy ad res.2) res.1) : ∀ (x1 : Int32) (σ : St_), fX6_grows_82  x1 σ = some res → vv_ p l e rmX6_grows s m args below meth c D A 6 Q 0 0 (wM cy ad σ) [(0, .ref (ad 29)), (1, .int x1)] 82 [] := by
  intro x1 σ hF
  replace hF : (fX6_grows_84  FU_ x1 0 σ : Option (Int32 × St_)) = some res := hF
  refine vv_iconst (v := 0) C dX6_grows_82 (by decide) ?_
  refine vv_istore_n (lv' := [(2, .int 0), (0, .ref (ad 29)), (1, .int x1)]) C dX6_grows_83 (by decide) rfl ?_
  refine vv_lv [1, 2, 0] rfl ?_
  exact vX6_grows_84 C h0 hr  FU_ x1 0 σ  hF
set_option maxHeartbeats 4000000 in
set_option maxRecDepth 20000 in
theorem vX6_grows_32 {p : Program} {l : Launch} {e : Env} {s : State} {m : MethodId} {args : Array Value} {below : List Frame} {meth : Method} {c : Code} {D : va_G} {A : Nat → Prop} {Q : State → Prop} {cy : Nat → ClassId} {ad : Nat → Nat} {res : Int32 × St_} (C : vv_X p s m args meth c D (tysW cy) A 6 cX6_grows RX6 wsX6_grows) (h0 : en_T A s) (hr : rt_I p l e rmX6_grows s m args below meth c D A 6 Q cX6_grows .boolean (wM cy ad res.2) res.1) : ∀ (n : Nat) (x1 : Int32) (x2 : Int32) (σ : St_), fX6_grows_32  n x1 x2 σ = some res → vv_ p l e rmX6_grows s m args below meth c D A 6 Q 0 0 (wM cy ad σ) [(0, .ref (ad 29)), (1, .int x1), (2, .int x2)] 32 [] := by
  intro n
  induction n with
  | zero =>
    intro x1 x2 σ hF
    cases (show none = some res from hF)
  | succ n ih =>
    intro x1 x2 σ hF
    replace hF : ((if (sS σ 2) ≤ x2 then fX6_grows_82  x1 σ else (gd_ x2 10 fun j4 => (gd_ 1 6 fun j5 => (if (sM σ 23 j4) < (sM σ 5 j5) then (gd_ x2 10 fun j6 => (gd_ x1 20 fun j7 => fX6_grows_76 (fX6_grows_32  n) (x1 + 1) x2 (uM (uM σ 25 j6 10) 27 j7 x2))) else fX6_grows_76 (fX6_grows_32  n) x1 x2 σ)))) : Option (Int32 × St_)) = some res := hF
    refine vv_iload_n C dX6_grows_32 2 rfl ?_
    refine vv_aload_n C dX6_grows_33 0 rfl ?_
    refine vv_get (v := .int (sS σ 2)) C (hi_X6_grows_X6) 25 (wM_g29 cy ad _) rfl 2 (by decide) (List.mem_of_getElem? (i := 3) rfl) rfl dX6_grows_34 ?_
    refine vv_icmp_ge (tgt := 82) C dX6_grows_37 (by decide) hF (fun c9 hF => ?_) (fun c9 hF => ?_)
    · refine vv_lv [0, 1] rfl ?_
      exact vX6_grows_82 C h0 hr  x1 σ  hF
    · refine vv_aload_n C dX6_grows_40 0 rfl ?_
      refine vv_get (v := .ref (ad 23)) C (hi_X6_grows_X6) 25 (wM_g29 cy ad _) rfl 23 (by decide) (List.mem_of_getElem? (i := 4) rfl) rfl dX6_grows_41 ?_
      refine vv_iload_n C dX6_grows_44 2 rfl ?_
      refine vv_iald C 19 0 (wM_g23 cy ad _) (tysW_0 cy) hF dX6_grows_45 (fun j4 hj4 hF => ?_)
      refine vv_aload_n C dX6_grows_46 0 rfl ?_
      refine vv_get (v := .ref (ad 5)) C (hi_X6_grows_X6) 25 (wM_g29 cy ad _) rfl 5 (by decide) (List.mem_of_getElem? (i := 5) rfl) rfl dX6_grows_47 ?_
      refine vv_iconst (v := 1) C dX6_grows_50 (by decide) ?_
      refine vv_iald C 1 0 (wM_g5 cy ad _) (tysW_0 cy) hF dX6_grows_51 (fun j5 hj5 hF => ?_)
      refine vv_icmp_lt (tgt := 58) C dX6_grows_52 (by decide) hF (fun c8 hF => ?_) (fun c8 hF => ?_)
      · refine vv_aload_n C dX6_grows_58 0 rfl ?_
        refine vv_get (v := .ref (ad 25)) C (hi_X6_grows_X6) 25 (wM_g29 cy ad _) rfl 25 (by decide) (List.mem_of_getElem? (i := 1) rfl) rfl dX6_grows_59 ?_
        refine vv_iload_n C dX6_grows_62 2 rfl ?_
        refine vv_bipush (v := 10) C dX6_grows_63 (by decide) ?_
        refine vv_iast (w' := fun j6 => (wM cy ad (uM σ 25 j6 10))) C 21 0 (wM_g25 cy ad _) (tysW_0 cy) hF dX6_grows_65 (fun _ => wM_a25 _ _ _ _) (fun j6 hj6 hF => ?_)
        refine vv_aload_n C dX6_grows_66 0 rfl ?_
        refine vv_get (v := .ref (ad 27)) C (hi_X6_grows_X6) 25 (wM_g29 cy ad _) rfl 27 (by decide) (List.mem_of_getElem? (i := 6) rfl) rfl dX6_grows_67 ?_
        refine vv_iload_n C dX6_grows_70 1 rfl ?_
        refine vv_iload_n C dX6_grows_71 2 rfl ?_
        refine vv_iast (w' := fun j7 => (wM cy ad (uM (uM σ 25 j6 10) 27 j7 x2))) C 23 0 (wM_g27 cy ad _) (tysW_0 cy) hF dX6_grows_72 (fun _ => wM_a27 _ _ _ _) (fun j7 hj7 hF => ?_)
        refine vv_iinc (q := 1) (v := x1 + 1) (lv' := [(1, .int (x1 + 1)), (0, .ref (ad 29)), (2, .int x2)]) C dX6_grows_73 rfl rfl (by decide) rfl ?_
        refine vv_lv [1, 0, 2] rfl ?_
        exact vX6_grows_76 C h0 hr (ih) (x1 + 1) x2 (uM (uM σ 25 j6 10) 27 j7 x2)  hF
      · refine vv_goto (tgt := 76) C dX6_grows_55 (by decide) ?_
        refine vv_lv [0, 1, 2] rfl ?_
        exact vX6_grows_76 C h0 hr (ih) x1 x2 σ  hF
set_option maxHeartbeats 4000000 in
set_option maxRecDepth 20000 in
theorem vX6_grows_30 {p : Program} {l : Launch} {e : Env} {s : State} {m : MethodId} {args : Array Value} {below : List Frame} {meth : Method} {c : Code} {D : va_G} {A : Nat → Prop} {Q : State → Prop} {cy : Nat → ClassId} {ad : Nat → Nat} {res : Int32 × St_} (C : vv_X p s m args meth c D (tysW cy) A 6 cX6_grows RX6 wsX6_grows) (h0 : en_T A s) (hr : rt_I p l e rmX6_grows s m args below meth c D A 6 Q cX6_grows .boolean (wM cy ad res.2) res.1) : ∀ (x1 : Int32) (σ : St_), fX6_grows_30  x1 σ = some res → vv_ p l e rmX6_grows s m args below meth c D A 6 Q 0 0 (wM cy ad σ) [(0, .ref (ad 29)), (1, .int x1)] 30 [] := by
  intro x1 σ hF
  replace hF : (fX6_grows_32  FU_ x1 0 σ : Option (Int32 × St_)) = some res := hF
  refine vv_iconst (v := 0) C dX6_grows_30 (by decide) ?_
  refine vv_istore_n (lv' := [(2, .int 0), (0, .ref (ad 29)), (1, .int x1)]) C dX6_grows_31 (by decide) rfl ?_
  refine vv_lv [1, 2, 0] rfl ?_
  exact vX6_grows_32 C h0 hr  FU_ x1 0 σ  hF
set_option maxHeartbeats 4000000 in
set_option maxRecDepth 20000 in
theorem vX6_grows_4 {p : Program} {l : Launch} {e : Env} {s : State} {m : MethodId} {args : Array Value} {below : List Frame} {meth : Method} {c : Code} {D : va_G} {A : Nat → Prop} {Q : State → Prop} {cy : Nat → ClassId} {ad : Nat → Nat} {res : Int32 × St_} (C : vv_X p s m args meth c D (tysW cy) A 6 cX6_grows RX6 wsX6_grows) (h0 : en_T A s) (hr : rt_I p l e rmX6_grows s m args below meth c D A 6 Q cX6_grows .boolean (wM cy ad res.2) res.1) : ∀ (n : Nat) (x1 : Int32) (x2 : Int32) (σ : St_), fX6_grows_4  n x1 x2 σ = some res → vv_ p l e rmX6_grows s m args below meth c D A 6 Q 0 0 (wM cy ad σ) [(0, .ref (ad 29)), (1, .int x1), (2, .int x2)] 4 [] := by
  intro n
  induction n with
  | zero =>
    intro x1 x2 σ hF
    cases (show none = some res from hF)
  | succ n ih =>
    intro x1 x2 σ hF
    replace hF : ((if 10 ≤ x2 then fX6_grows_30  x1 σ else (gd_ x2 10 fun j1 => (gd_ x2 10 fun j2 => fX6_grows_4  n x1 (x2 + 1) (uM (uM σ 25 j1 (-1)) 26 j2 (-1))))) : Option (Int32 × St_)) = some res := hF
    refine vv_iload_n C dX6_grows_4 2 rfl ?_
    refine vv_bipush (v := 10) C dX6_grows_5 (by decide) ?_
    refine vv_icmp_ge (tgt := 30) C dX6_grows_7 (by decide) hF (fun c3 hF => ?_) (fun c3 hF => ?_)
    · refine vv_lv [0, 1] rfl ?_
      exact vX6_grows_30 C h0 hr  x1 σ  hF
    · refine vv_aload_n C dX6_grows_10 0 rfl ?_
      refine vv_get (v := .ref (ad 25)) C (hi_X6_grows_X6) 25 (wM_g29 cy ad _) rfl 25 (by decide) (List.mem_of_getElem? (i := 1) rfl) rfl dX6_grows_11 ?_
      refine vv_iload_n C dX6_grows_14 2 rfl ?_
      refine vv_iconst (v := (-1)) C dX6_grows_15 (by decide) ?_
      refine vv_iast (w' := fun j1 => (wM cy ad (uM σ 25 j1 (-1)))) C 21 0 (wM_g25 cy ad _) (tysW_0 cy) hF dX6_grows_16 (fun _ => wM_a25 _ _ _ _) (fun j1 hj1 hF => ?_)
      refine vv_aload_n C dX6_grows_17 0 rfl ?_
      refine vv_get (v := .ref (ad 26)) C (hi_X6_grows_X6) 25 (wM_g29 cy ad _) rfl 26 (by decide) (List.mem_of_getElem? (i := 2) rfl) rfl dX6_grows_18 ?_
      refine vv_iload_n C dX6_grows_21 2 rfl ?_
      refine vv_iconst (v := (-1)) C dX6_grows_22 (by decide) ?_
      refine vv_iast (w' := fun j2 => (wM cy ad (uM (uM σ 25 j1 (-1)) 26 j2 (-1)))) C 22 0 (wM_g26 cy ad _) (tysW_0 cy) hF dX6_grows_23 (fun _ => wM_a26 _ _ _ _) (fun j2 hj2 hF => ?_)
      refine vv_iinc (q := 2) (v := x2 + 1) (lv' := [(2, .int (x2 + 1)), (0, .ref (ad 29)), (1, .int x1)]) C dX6_grows_24 rfl rfl (by decide) rfl ?_
      refine vv_goto (tgt := 4) C dX6_grows_27 (by decide) ?_
      refine vv_lv [1, 2, 0] rfl ?_
      exact ih x1 (x2 + 1) (uM (uM σ 25 j1 (-1)) 26 j2 (-1))  hF
set_option maxHeartbeats 4000000 in
set_option maxRecDepth 20000 in
theorem kX6_grows (l : Launch) (D : va_G) (cy : Nat → ClassId) (ad : Nat → Nat) (σ : St_) (res : Int32 × St_)  (hF : fX6_grows σ = some res) : ct_I l D (tysW cy) en_T yX6_grows wsX6_grows rmX6_grows [.ref (ad 29)] (wM cy ad σ) res.1 (wM cy ad res.2) := by
  refine mt_I (by decide) rfl (Nat.le_of_ble_eq_true rfl) ?_
  intro p e s m args below meth c A Q C h0 hr
  replace C : vv_X p s m args meth c D (tysW cy) A 6 cX6_grows RX6 wsX6_grows := C
  replace hF : (fX6_grows_4  FU_ 0 0 σ : Option (Int32 × St_)) = some res := hF
  refine vv_lv [0] (lv' := [(0, .ref (ad 29))]) rfl ?_
  refine vv_iconst (v := 0) C dX6_grows_0 (by decide) ?_
  refine vv_istore_n (lv' := [(1, .int 0), (0, .ref (ad 29))]) C dX6_grows_1 (by decide) rfl ?_
  refine vv_iconst (v := 0) C dX6_grows_2 (by decide) ?_
  refine vv_istore_n (lv' := [(2, .int 0), (1, .int 0), (0, .ref (ad 29))]) C dX6_grows_3 (by decide) rfl ?_
  refine vv_lv [2, 1, 0] rfl ?_
  exact vX6_grows_4 C h0 hr  FU_ 0 0 σ  hF
/-! X6_most -/
abbrev rmX6_most : Room := { frames := 2, cells := 0, slots := 0, locals := 48 }
theorem hi_X6_most_X6 : ∀ w ∈ wsX60, w ∈ wsX6_most := fun w h => List.mem_cons_of_mem _ (List.mem_append_right _ h)
def fX6_most_86 (k32 : Int32 → Int32 → St_ → Option (Int32 × St_)) (x1 : Int32) (x2 : Int32) (σ : St_) : Option (Int32 × St_) := k32 x1 (x2 + 1) σ
def fX6_most_138 : Nat → Int32 → St_ → Option (Int32 × St_)
  | 0, _, _ => none
  | n + 1, x1, σ => (bn_ (fX6_grows σ) fun r19 => (if r19.1 = 0 then some (x1, r19.2) else fX6_most_138  n (x1 + 1) r19.2))
def fX6_most_94 : Nat → Int32 → Int32 → St_ → Option (Int32 × St_)
  | 0, _, _, _ => none
  | n + 1, x1, x2, σ => (if 10 ≤ x2 then fX6_most_138  FU_ x1 σ else (gd_ x2 10 fun j12 => (gd_ 1 6 fun j13 => (if (sM σ 5 j13) < (sM σ 23 j12) then some ((-1), σ) else (gd_ x2 10 fun j14 => (gd_ 0 6 fun j15 => (if (sM σ 24 j14) ≤ (sM σ 5 j15) then fX6_most_94  n x1 (x2 + 1) σ else some ((-1), σ))))))))
def fX6_most_92 (x1 : Int32) (σ : St_) : Option (Int32 × St_) := fX6_most_94  FU_ x1 0 σ
def fX6_most_32 : Nat → Int32 → Int32 → St_ → Option (Int32 × St_)
  | 0, _, _, _ => none
  | n + 1, x1, x2, σ => (if 100 ≤ x2 then fX6_most_92  x1 σ else (gd_ x2 100 fun j4 => (gd_ x2 100 fun j5 => (if (sM (uM σ 22 j4 (vp_nar .boolean 0)) 20 j5) = 0 then fX6_most_86 (fX6_most_32  n) x1 x2 (uM σ 22 j4 (vp_nar .boolean 0)) else (gd_ (x2 / 10) 10 fun j6 => (gd_ (x2 / 10) 10 fun j7 => (gd_ (x2 - x2 / 10 * 10) 10 fun j8 => (gd_ (x2 - x2 / 10 * 10) 10 fun j9 => fX6_most_86 (fX6_most_32  n) (x1 + 1) x2 (uM (uM (uM σ 22 j4 (vp_nar .boolean 0)) 23 j7 ((sM (uM σ 22 j4 (vp_nar .boolean 0)) 23 j6) + 1)) 24 j9 ((sM (uM (uM σ 22 j4 (vp_nar .boolean 0)) 23 j7 ((sM (uM σ 22 j4 (vp_nar .boolean 0)) 23 j6) + 1)) 24 j8) + 1))))))))))
def fX6_most_30 (x1 : Int32) (σ : St_) : Option (Int32 × St_) := fX6_most_32  FU_ x1 0 σ
def fX6_most_4 : Nat → Int32 → Int32 → St_ → Option (Int32 × St_)
  | 0, _, _, _ => none
  | n + 1, x1, x2, σ => (if 10 ≤ x2 then fX6_most_30  x1 σ else (gd_ x2 10 fun j1 => (gd_ x2 10 fun j2 => fX6_most_4  n x1 (x2 + 1) (uM (uM σ 23 j1 0) 24 j2 0))))
def fX6_most (σ : St_) : Option (Int32 × St_) := fX6_most_4  FU_ 0 0 σ
set_option maxHeartbeats 4000000 in
set_option maxRecDepth 20000 in
theorem vX6_most_86 {p : Program} {l : Launch} {e : Env} {s : State} {m : MethodId} {args : Array Value} {below : List Frame} {meth : Method} {c : Code} {D : va_G} {A : Nat → Prop} {Q : State → Prop} {cy : Nat → ClassId} {ad : Nat → Nat} {k32 : Int32 → Int32 → St_ → Option (Int32 × St_)} {res : Int32 × St_} (C : vv_X p s m args meth c D (tysW cy) A 3 cX6_most RX6 wsX6_most) (h0 : en_T A s) (hr : rt_I p l e rmX6_most s m args below meth c D A 3 Q cX6_most .int (wM cy ad res.2) res.1) (hk32 : ∀ (x1 : Int32) (x2 : Int32) (σ : St_), k32 x1 x2 σ = some res → vv_ p l e rmX6_most s m args below meth c D A 3 Q 0 0 (wM cy ad σ) [(0, .ref (ad 29)), (1, .int x1), (2, .int x2)] 32 []) : ∀ (x1 : Int32) (x2 : Int32) (σ : St_), fX6_most_86 k32 x1 x2 σ = some res → vv_ p l e rmX6_most s m args below meth c D A 3 Q 0 0 (wM cy ad σ) [(0, .ref (ad 29)), (1, .int x1), (2, .int x2)] 86 [] := by
  intro x1 x2 σ hF
  replace hF : (k32 x1 (x2 + 1) σ : Option (Int32 × St_)) = some res := hF
  refine vv_iinc (q := 2) (v := x2 + 1) (lv' := [(2, .int (x2 + 1)), (0, .ref (ad 29)), (1, .int x1)]) C dX6_most_86 rfl rfl (by decide) rfl ?_
  refine vv_goto (tgt := 32) C dX6_most_89 (by decide) ?_
  refine vv_lv [1, 2, 0] rfl ?_
  exact hk32 x1 (x2 + 1) σ  hF
set_option maxHeartbeats 4000000 in
set_option maxRecDepth 20000 in
theorem vX6_most_138 {p : Program} {l : Launch} {e : Env} {s : State} {m : MethodId} {args : Array Value} {below : List Frame} {meth : Method} {c : Code} {D : va_G} {A : Nat → Prop} {Q : State → Prop} {cy : Nat → ClassId} {ad : Nat → Nat} {res : Int32 × St_} (C : vv_X p s m args meth c D (tysW cy) A 3 cX6_most RX6 wsX6_most) (h0 : en_T A s) (hr : rt_I p l e rmX6_most s m args below meth c D A 3 Q cX6_most .int (wM cy ad res.2) res.1) : ∀ (n : Nat) (x1 : Int32) (σ : St_), fX6_most_138  n x1 σ = some res → vv_ p l e rmX6_most s m args below meth c D A 3 Q 0 0 (wM cy ad σ) [(0, .ref (ad 29)), (1, .int x1)] 138 [] := by
  intro n
  induction n with
  | zero =>
    intro x1 σ hF
    cases (show none = some res from hF)
  | succ n ih =>
    intro x1 σ hF
    replace hF : ((bn_ (fX6_grows σ) fun r19 => (if r19.1 = 0 then some (x1, r19.2) else fX6_most_138  n (x1 + 1) r19.2)) : Option (Int32 × St_)) = some res := hF
    refine vv_aload_n C dX6_most_138 0 rfl ?_
    refine vv_callVi (fun r19 => r19.1) (fun r19 => (wM cy ad r19.2)) C en_ok h0 [] [] 0 hF (fun r19 hr19 => kX6_grows l D cy ad σ r19  hr19) gX6_most_X6_grows rfl rfl rfl (by decide +kernel) ⟨by decide, by decide⟩ 25 (wM_g29 cy ad _) rfl rfl rfl (Nat.le_of_ble_eq_true rfl) dX6_most_139 ⟨by decide, by decide⟩ (fun r19 hqr19 hF => ?_)
    refine vv_if_eq (tgt := 151) C dX6_most_142 (by decide) hF (fun c20 hF => ?_) (fun c20 hF => ?_)
    · refine vv_iload_n C dX6_most_151 1 rfl ?_
      cases hF
      exact hr _ _ dX6_most_152 rfl
    · refine vv_iinc (q := 1) (v := x1 + 1) (lv' := [(1, .int (x1 + 1)), (0, .ref (ad 29))]) C dX6_most_145 rfl rfl (by decide) rfl ?_
      refine vv_goto (tgt := 138) C dX6_most_148 (by decide) ?_
      refine vv_lv [1, 0] rfl ?_
      exact ih (x1 + 1) r19.2  hF
set_option maxHeartbeats 4000000 in
set_option maxRecDepth 20000 in
theorem vX6_most_94 {p : Program} {l : Launch} {e : Env} {s : State} {m : MethodId} {args : Array Value} {below : List Frame} {meth : Method} {c : Code} {D : va_G} {A : Nat → Prop} {Q : State → Prop} {cy : Nat → ClassId} {ad : Nat → Nat} {res : Int32 × St_} (C : vv_X p s m args meth c D (tysW cy) A 3 cX6_most RX6 wsX6_most) (h0 : en_T A s) (hr : rt_I p l e rmX6_most s m args below meth c D A 3 Q cX6_most .int (wM cy ad res.2) res.1) : ∀ (n : Nat) (x1 : Int32) (x2 : Int32) (σ : St_), fX6_most_94  n x1 x2 σ = some res → vv_ p l e rmX6_most s m args below meth c D A 3 Q 0 0 (wM cy ad σ) [(0, .ref (ad 29)), (1, .int x1), (2, .int x2)] 94 [] := by
  intro n
  induction n with
  | zero =>
    intro x1 x2 σ hF
    cases (show none = some res from hF)
  | succ n ih =>
    intro x1 x2 σ hF
    replace hF : ((if 10 ≤ x2 then fX6_most_138  FU_ x1 σ else (gd_ x2 10 fun j12 => (gd_ 1 6 fun j13 => (if (sM σ 5 j13) < (sM σ 23 j12) then some ((-1), σ) else (gd_ x2 10 fun j14 => (gd_ 0 6 fun j15 => (if (sM σ 24 j14) ≤ (sM σ 5 j15) then fX6_most_94  n x1 (x2 + 1) σ else some ((-1), σ)))))))) : Option (Int32 × St_)) = some res := hF
    refine vv_iload_n C dX6_most_94 2 rfl ?_
    refine vv_bipush (v := 10) C dX6_most_95 (by decide) ?_
    refine vv_icmp_ge (tgt := 138) C dX6_most_97 (by decide) hF (fun c18 hF => ?_) (fun c18 hF => ?_)
    · refine vv_lv [0, 1] rfl ?_
      exact vX6_most_138 C h0 hr  FU_ x1 σ  hF
    · refine vv_aload_n C dX6_most_100 0 rfl ?_
      refine vv_get (v := .ref (ad 23)) C (hi_X6_most_X6) 25 (wM_g29 cy ad _) rfl 23 (by decide) (List.mem_of_getElem? (i := 1) rfl) rfl dX6_most_101 ?_
      refine vv_iload_n C dX6_most_104 2 rfl ?_
      refine vv_iald C 19 0 (wM_g23 cy ad _) (tysW_0 cy) hF dX6_most_105 (fun j12 hj12 hF => ?_)
      refine vv_aload_n C dX6_most_106 0 rfl ?_
      refine vv_get (v := .ref (ad 5)) C (hi_X6_most_X6) 25 (wM_g29 cy ad _) rfl 5 (by decide) (List.mem_of_getElem? (i := 5) rfl) rfl dX6_most_107 ?_
      refine vv_iconst (v := 1) C dX6_most_110 (by decide) ?_
      refine vv_iald C 1 0 (wM_g5 cy ad _) (tysW_0 cy) hF dX6_most_111 (fun j13 hj13 hF => ?_)
      refine vv_icmp_gt (tgt := 130) C dX6_most_112 (by decide) hF (fun c17 hF => ?_) (fun c17 hF => ?_)
      · refine vv_iconst (v := (-1)) C dX6_most_130 (by decide) ?_
        cases hF
        exact hr _ _ dX6_most_131 rfl
      · refine vv_aload_n C dX6_most_115 0 rfl ?_
        refine vv_get (v := .ref (ad 24)) C (hi_X6_most_X6) 25 (wM_g29 cy ad _) rfl 24 (by decide) (List.mem_of_getElem? (i := 2) rfl) rfl dX6_most_116 ?_
        refine vv_iload_n C dX6_most_119 2 rfl ?_
        refine vv_iald C 20 0 (wM_g24 cy ad _) (tysW_0 cy) hF dX6_most_120 (fun j14 hj14 hF => ?_)
        refine vv_aload_n C dX6_most_121 0 rfl ?_
        refine vv_get (v := .ref (ad 5)) C (hi_X6_most_X6) 25 (wM_g29 cy ad _) rfl 5 (by decide) (List.mem_of_getElem? (i := 5) rfl) rfl dX6_most_122 ?_
        refine vv_iconst (v := 0) C dX6_most_125 (by decide) ?_
        refine vv_iald C 1 0 (wM_g5 cy ad _) (tysW_0 cy) hF dX6_most_126 (fun j15 hj15 hF => ?_)
        refine vv_icmp_le (tgt := 132) C dX6_most_127 (by decide) hF (fun c16 hF => ?_) (fun c16 hF => ?_)
        · refine vv_iinc (q := 2) (v := x2 + 1) (lv' := [(2, .int (x2 + 1)), (0, .ref (ad 29)), (1, .int x1)]) C dX6_most_132 rfl rfl (by decide) rfl ?_
          refine vv_goto (tgt := 94) C dX6_most_135 (by decide) ?_
          refine vv_lv [1, 2, 0] rfl ?_
          exact ih x1 (x2 + 1) σ  hF
        · refine vv_iconst (v := (-1)) C dX6_most_130 (by decide) ?_
          cases hF
          exact hr _ _ dX6_most_131 rfl
set_option maxHeartbeats 4000000 in
set_option maxRecDepth 20000 in
theorem vX6_most_92 {p : Program} {l : Launch} {e : Env} {s : State} {m : MethodId} {args : Array Value} {below : List Frame} {meth : Method} {c : Code} {D : va_G} {A : Nat → Prop} {Q : State → Prop} {cy : Nat → ClassId} {ad : Nat → Nat} {res : Int32 × St_} (C : vv_X p s m args meth c D (tysW cy) A 3 cX6_most RX6 wsX6_most) (h0 : en_T A s) (hr : rt_I p l e rmX6_most s m args below meth c D A 3 Q cX6_most .int (wM cy ad res.2) res.1) : ∀ (x1 : Int32) (σ : St_), fX6_most_92  x1 σ = some res → vv_ p l e rmX6_most s m args below meth c D A 3 Q 0 0 (wM cy ad σ) [(0, .ref (ad 29)), (1, .int x1)] 92 [] := by
  intro x1 σ hF
  replace hF : (fX6_most_94  FU_ x1 0 σ : Option (Int32 × St_)) = some res := hF
  refine vv_iconst (v := 0) C dX6_most_92 (by decide) ?_
  refine vv_istore_n (lv' := [(2, .int 0), (0, .ref (ad 29)), (1, .int x1)]) C dX6_most_93 (by decide) rfl ?_
  refine vv_lv [1, 2, 0] rfl ?_
  exact vX6_most_94 C h0 hr  FU_ x1 0 σ  hF
set_option maxHeartbeats 4000000 in
set_option maxRecDepth 20000 in
theorem vX6_most_32 {p : Program} {l : Launch} {e : Env} {s : State} {m : MethodId} {args : Array Value} {below : List Frame} {meth : Method} {c : Code} {D : va_G} {A : Nat → Prop} {Q : State → Prop} {cy : Nat → ClassId} {ad : Nat → Nat} {res : Int32 × St_} (C : vv_X p s m args meth c D (tysW cy) A 3 cX6_most RX6 wsX6_most) (h0 : en_T A s) (hr : rt_I p l e rmX6_most s m args below meth c D A 3 Q cX6_most .int (wM cy ad res.2) res.1) : ∀ (n : Nat) (x1 : Int32) (x2 : Int32) (σ : St_), fX6_most_32  n x1 x2 σ = some res → vv_ p l e rmX6_most s m args below meth c D A 3 Q 0 0 (wM cy ad σ) [(0, .ref (ad 29)), (1, .int x1), (2, .int x2)] 32 [] := by
  intro n
  induction n with
  | zero =>
    intro x1 x2 σ hF
    cases (show none = some res from hF)
  | succ n ih =>
    intro x1 x2 σ hF
    replace hF : ((if 100 ≤ x2 then fX6_most_92  x1 σ else (gd_ x2 100 fun j4 => (gd_ x2 100 fun j5 => (if (sM (uM σ 22 j4 (vp_nar .boolean 0)) 20 j5) = 0 then fX6_most_86 (fX6_most_32  n) x1 x2 (uM σ 22 j4 (vp_nar .boolean 0)) else (gd_ (x2 / 10) 10 fun j6 => (gd_ (x2 / 10) 10 fun j7 => (gd_ (x2 - x2 / 10 * 10) 10 fun j8 => (gd_ (x2 - x2 / 10 * 10) 10 fun j9 => fX6_most_86 (fX6_most_32  n) (x1 + 1) x2 (uM (uM (uM σ 22 j4 (vp_nar .boolean 0)) 23 j7 ((sM (uM σ 22 j4 (vp_nar .boolean 0)) 23 j6) + 1)) 24 j9 ((sM (uM (uM σ 22 j4 (vp_nar .boolean 0)) 23 j7 ((sM (uM σ 22 j4 (vp_nar .boolean 0)) 23 j6) + 1)) 24 j8) + 1)))))))))) : Option (Int32 × St_)) = some res := hF
    refine vv_iload_n C dX6_most_32 2 rfl ?_
    refine vv_bipush (v := 100) C dX6_most_33 (by decide) ?_
    refine vv_icmp_ge (tgt := 92) C dX6_most_35 (by decide) hF (fun c11 hF => ?_) (fun c11 hF => ?_)
    · refine vv_lv [0, 1] rfl ?_
      exact vX6_most_92 C h0 hr  x1 σ  hF
    · refine vv_aload_n C dX6_most_38 0 rfl ?_
      refine vv_get (v := .ref (ad 22)) C (hi_X6_most_X6) 25 (wM_g29 cy ad _) rfl 22 (by decide) (List.mem_of_getElem? (i := 3) rfl) rfl dX6_most_39 ?_
      refine vv_iload_n C dX6_most_42 2 rfl ?_
      refine vv_iconst (v := 0) C dX6_most_43 (by decide) ?_
      refine vv_zast (w' := fun j4 => (wM cy ad (uM σ 22 j4 (vp_nar .boolean 0)))) C 18 1 (wM_g22 cy ad _) (tysW_1 cy) hF dX6_most_44 (fun _ => wM_a22 _ _ _ _) (fun j4 hj4 hF => ?_)
      refine vv_aload_n C dX6_most_45 0 rfl ?_
      refine vv_get (v := .ref (ad 20)) C (hi_X6_most_X6) 25 (wM_g29 cy ad _) rfl 20 (by decide) (List.mem_of_getElem? (i := 4) rfl) rfl dX6_most_46 ?_
      refine vv_iload_n C dX6_most_49 2 rfl ?_
      refine vv_zald C 16 1 (wM_g20 cy ad _) (tysW_1 cy) hF dX6_most_50 (fun j5 hj5 hF => ?_)
      refine vv_if_ne (tgt := 57) C dX6_most_51 (by decide) hF (fun c10 hF => ?_) (fun c10 hF => ?_)
      · refine vv_aload_n C dX6_most_57 0 rfl ?_
        refine vv_get (v := .ref (ad 23)) C (hi_X6_most_X6) 25 (wM_g29 cy ad _) rfl 23 (by decide) (List.mem_of_getElem? (i := 1) rfl) rfl dX6_most_58 ?_
        refine vv_iload_n C dX6_most_61 2 rfl ?_
        refine vv_bipush (v := 10) C dX6_most_62 (by decide) ?_
        refine vv_idiv C dX6_most_64 (by decide) ?_
        refine vv_dup2 C dX6_most_65 rfl rfl ?_
        refine vv_iald C 19 0 (wM_g23 cy ad _) (tysW_0 cy) hF dX6_most_66 (fun j6 hj6 hF => ?_)
        refine vv_iconst (v := 1) C dX6_most_67 (by decide) ?_
        refine vv_iadd C dX6_most_68 ?_
        refine vv_iast (w' := fun j7 => (wM cy ad (uM (uM σ 22 j4 (vp_nar .boolean 0)) 23 j7 ((sM (uM σ 22 j4 (vp_nar .boolean 0)) 23 j6) + 1)))) C 19 0 (wM_g23 cy ad _) (tysW_0 cy) hF dX6_most_69 (fun _ => wM_a23 _ _ _ _) (fun j7 hj7 hF => ?_)
        refine vv_aload_n C dX6_most_70 0 rfl ?_
        refine vv_get (v := .ref (ad 24)) C (hi_X6_most_X6) 25 (wM_g29 cy ad _) rfl 24 (by decide) (List.mem_of_getElem? (i := 2) rfl) rfl dX6_most_71 ?_
        refine vv_iload_n C dX6_most_74 2 rfl ?_
        refine vv_bipush (v := 10) C dX6_most_75 (by decide) ?_
        refine vv_irem C dX6_most_77 (by decide) ?_
        refine vv_dup2 C dX6_most_78 rfl rfl ?_
        refine vv_iald C 20 0 (wM_g24 cy ad _) (tysW_0 cy) hF dX6_most_79 (fun j8 hj8 hF => ?_)
        refine vv_iconst (v := 1) C dX6_most_80 (by decide) ?_
        refine vv_iadd C dX6_most_81 ?_
        refine vv_iast (w' := fun j9 => (wM cy ad (uM (uM (uM σ 22 j4 (vp_nar .boolean 0)) 23 j7 ((sM (uM σ 22 j4 (vp_nar .boolean 0)) 23 j6) + 1)) 24 j9 ((sM (uM (uM σ 22 j4 (vp_nar .boolean 0)) 23 j7 ((sM (uM σ 22 j4 (vp_nar .boolean 0)) 23 j6) + 1)) 24 j8) + 1)))) C 20 0 (wM_g24 cy ad _) (tysW_0 cy) hF dX6_most_82 (fun _ => wM_a24 _ _ _ _) (fun j9 hj9 hF => ?_)
        refine vv_iinc (q := 1) (v := x1 + 1) (lv' := [(1, .int (x1 + 1)), (0, .ref (ad 29)), (2, .int x2)]) C dX6_most_83 rfl rfl (by decide) rfl ?_
        refine vv_lv [1, 0, 2] rfl ?_
        exact vX6_most_86 C h0 hr (ih) (x1 + 1) x2 (uM (uM (uM σ 22 j4 (vp_nar .boolean 0)) 23 j7 ((sM (uM σ 22 j4 (vp_nar .boolean 0)) 23 j6) + 1)) 24 j9 ((sM (uM (uM σ 22 j4 (vp_nar .boolean 0)) 23 j7 ((sM (uM σ 22 j4 (vp_nar .boolean 0)) 23 j6) + 1)) 24 j8) + 1))  hF
      · refine vv_goto (tgt := 86) C dX6_most_54 (by decide) ?_
        refine vv_lv [0, 1, 2] rfl ?_
        exact vX6_most_86 C h0 hr (ih) x1 x2 (uM σ 22 j4 (vp_nar .boolean 0))  hF
set_option maxHeartbeats 4000000 in
set_option maxRecDepth 20000 in
theorem vX6_most_30 {p : Program} {l : Launch} {e : Env} {s : State} {m : MethodId} {args : Array Value} {below : List Frame} {meth : Method} {c : Code} {D : va_G} {A : Nat → Prop} {Q : State → Prop} {cy : Nat → ClassId} {ad : Nat → Nat} {res : Int32 × St_} (C : vv_X p s m args meth c D (tysW cy) A 3 cX6_most RX6 wsX6_most) (h0 : en_T A s) (hr : rt_I p l e rmX6_most s m args below meth c D A 3 Q cX6_most .int (wM cy ad res.2) res.1) : ∀ (x1 : Int32) (σ : St_), fX6_most_30  x1 σ = some res → vv_ p l e rmX6_most s m args below meth c D A 3 Q 0 0 (wM cy ad σ) [(0, .ref (ad 29)), (1, .int x1)] 30 [] := by
  intro x1 σ hF
  replace hF : (fX6_most_32  FU_ x1 0 σ : Option (Int32 × St_)) = some res := hF
  refine vv_iconst (v := 0) C dX6_most_30 (by decide) ?_
  refine vv_istore_n (lv' := [(2, .int 0), (0, .ref (ad 29)), (1, .int x1)]) C dX6_most_31 (by decide) rfl ?_
  refine vv_lv [1, 2, 0] rfl ?_
  exact vX6_most_32 C h0 hr  FU_ x1 0 σ  hF
set_option maxHeartbeats 4000000 in
set_option maxRecDepth 20000 in
theorem vX6_most_4 {p : Program} {l : Launch} {e : Env} {s : State} {m : MethodId} {args : Array Value} {below : List Frame} {meth : Method} {c : Code} {D : va_G} {A : Nat → Prop} {Q : State → Prop} {cy : Nat → ClassId} {ad : Nat → Nat} {res : Int32 × St_} (C : vv_X p s m args meth c D (tysW cy) A 3 cX6_most RX6 wsX6_most) (h0 : en_T A s) (hr : rt_I p l e rmX6_most s m args below meth c D A 3 Q cX6_most .int (wM cy ad res.2) res.1) : ∀ (n : Nat) (x1 : Int32) (x2 : Int32) (σ : St_), fX6_most_4  n x1 x2 σ = some res → vv_ p l e rmX6_most s m args below meth c D A 3 Q 0 0 (wM cy ad σ) [(0, .ref (ad 29)), (1, .int x1), (2, .int x2)] 4 [] := by
  intro n
  induction n with
  | zero =>
    intro x1 x2 σ hF
    cases (show none = some res from hF)
  | succ n ih =>
    intro x1 x2 σ hF
    replace hF : ((if 10 ≤ x2 then fX6_most_30  x1 σ else (gd_ x2 10 fun j1 => (gd_ x2 10 fun j2 => fX6_most_4  n x1 (x2 + 1) (uM (uM σ 23 j1 0) 24 j2 0)))) : Option (Int32 × St_)) = some res := hF
    refine vv_iload_n C dX6_most_4 2 rfl ?_
    refine vv_bipush (v := 10) C dX6_most_5 (by decide) ?_
    refine vv_icmp_ge (tgt := 30) C dX6_most_7 (by decide) hF (fun c3 hF => ?_) (fun c3 hF => ?_)
    · refine vv_lv [0, 1] rfl ?_
      exact vX6_most_30 C h0 hr  x1 σ  hF
    · refine vv_aload_n C dX6_most_10 0 rfl ?_
      refine vv_get (v := .ref (ad 23)) C (hi_X6_most_X6) 25 (wM_g29 cy ad _) rfl 23 (by decide) (List.mem_of_getElem? (i := 1) rfl) rfl dX6_most_11 ?_
      refine vv_iload_n C dX6_most_14 2 rfl ?_
      refine vv_iconst (v := 0) C dX6_most_15 (by decide) ?_
      refine vv_iast (w' := fun j1 => (wM cy ad (uM σ 23 j1 0))) C 19 0 (wM_g23 cy ad _) (tysW_0 cy) hF dX6_most_16 (fun _ => wM_a23 _ _ _ _) (fun j1 hj1 hF => ?_)
      refine vv_aload_n C dX6_most_17 0 rfl ?_
      refine vv_get (v := .ref (ad 24)) C (hi_X6_most_X6) 25 (wM_g29 cy ad _) rfl 24 (by decide) (List.mem_of_getElem? (i := 2) rfl) rfl dX6_most_18 ?_
      refine vv_iload_n C dX6_most_21 2 rfl ?_
      refine vv_iconst (v := 0) C dX6_most_22 (by decide) ?_
      refine vv_iast (w' := fun j2 => (wM cy ad (uM (uM σ 23 j1 0) 24 j2 0))) C 20 0 (wM_g24 cy ad _) (tysW_0 cy) hF dX6_most_23 (fun _ => wM_a24 _ _ _ _) (fun j2 hj2 hF => ?_)
      refine vv_iinc (q := 2) (v := x2 + 1) (lv' := [(2, .int (x2 + 1)), (0, .ref (ad 29)), (1, .int x1)]) C dX6_most_24 rfl rfl (by decide) rfl ?_
      refine vv_goto (tgt := 4) C dX6_most_27 (by decide) ?_
      refine vv_lv [1, 2, 0] rfl ?_
      exact ih x1 (x2 + 1) (uM (uM σ 23 j1 0) 24 j2 0)  hF
set_option maxHeartbeats 4000000 in
set_option maxRecDepth 20000 in
theorem kX6_most (l : Launch) (D : va_G) (cy : Nat → ClassId) (ad : Nat → Nat) (σ : St_) (res : Int32 × St_)  (hF : fX6_most σ = some res) : ct_I l D (tysW cy) en_T yX6_most wsX6_most rmX6_most [.ref (ad 29)] (wM cy ad σ) res.1 (wM cy ad res.2) := by
  refine mt_I (by decide) rfl (Nat.le_of_ble_eq_true rfl) ?_
  intro p e s m args below meth c A Q C h0 hr
  replace C : vv_X p s m args meth c D (tysW cy) A 3 cX6_most RX6 wsX6_most := C
  replace hF : (fX6_most_4  FU_ 0 0 σ : Option (Int32 × St_)) = some res := hF
  refine vv_lv [0] (lv' := [(0, .ref (ad 29))]) rfl ?_
  refine vv_iconst (v := 0) C dX6_most_0 (by decide) ?_
  refine vv_istore_n (lv' := [(1, .int 0), (0, .ref (ad 29))]) C dX6_most_1 (by decide) rfl ?_
  refine vv_iconst (v := 0) C dX6_most_2 (by decide) ?_
  refine vv_istore_n (lv' := [(2, .int 0), (1, .int 0), (0, .ref (ad 29))]) C dX6_most_3 (by decide) rfl ?_
  refine vv_lv [2, 1, 0] rfl ?_
  exact vX6_most_4 C h0 hr  FU_ 0 0 σ  hF
/-! X6_lay -/
abbrev rmX6_lay : Room := { frames := 3, cells := 0, slots := 0, locals := 70 }
theorem hi_X6_lay_X6 : ∀ w ∈ wsX60, w ∈ wsX6_lay := fun w h => List.mem_cons_of_mem _ (List.mem_append_right _ h)
def fX6_lay_71 (k11 : Int32 → St_ → Option (Int32 × St_)) (x1 : Int32) (t0 : Int32) (t1 : Int32) (σ : St_) : Option (Int32 × St_) := (gd_ t1 100 fun j9 => k11 (x1 + 1) (uM σ 21 j9 (vp_nar .boolean t0)))
def fX6_lay_70 (k11 : Int32 → St_ → Option (Int32 × St_)) (x1 : Int32) (t0 : Int32) (σ : St_) : Option (Int32 × St_) := fX6_lay_71 (k11) x1 0 t0 σ
def fX6_lay_160 (k85 : Int32 → Int32 → St_ → Option (Int32 × St_)) (k95 : Int32 → Int32 → Int32 → St_ → Option (Int32 × St_)) (x1 : Int32) (x2 : Int32) (x3 : Int32) (σ : St_) : Option (Int32 × St_) := k95 x1 x2 (x3 + 1) σ
def fX6_lay_159 (k85 : Int32 → Int32 → St_ → Option (Int32 × St_)) (k95 : Int32 → Int32 → Int32 → St_ → Option (Int32 × St_)) (x1 : Int32) (x2 : Int32) (x3 : Int32) (t0 : Int32) (t1 : Int32) (σ : St_) : Option (Int32 × St_) := (gd_ t1 100 fun j22 => fX6_lay_160 (k85) (k95) x1 x2 x3 (uM σ 20 j22 (vp_nar .boolean t0)))
def fX6_lay_166 (k85 : Int32 → Int32 → St_ → Option (Int32 × St_)) (x1 : Int32) (x2 : Int32) (σ : St_) : Option (Int32 × St_) := k85 x1 (x2 + 1) σ
def fX6_lay_95 (k85 : Int32 → Int32 → St_ → Option (Int32 × St_)) : Nat → Int32 → Int32 → Int32 → St_ → Option (Int32 × St_)
  | 0, _, _, _, _ => none
  | n + 1, x1, x2, x3, σ => (if (sS σ 2) ≤ x3 then fX6_lay_166 (k85) x1 x2 σ else (gd_ ((10 * x3) + x2) 100 fun j11 => (if (sM σ 21 j11) = 0 then fX6_lay_160 (k85) (fX6_lay_95 k85 n) x1 x2 x3 σ else (gd_ ((10 * x3) + x2) 100 fun j12 => (gd_ ((10 * x3) + x2) 100 fun j13 => (bn_ (fX6_most (uM (uM σ 21 j12 (vp_nar .boolean 0)) 20 j13 (vp_nar .boolean 1))) fun r14 => (if r14.1 = x1 then fX6_lay_159 (k85) (fX6_lay_95 k85 n) x1 x2 x3 1 ((10 * x3) + x2) r14.2 else fX6_lay_159 (k85) (fX6_lay_95 k85 n) x1 x2 x3 0 ((10 * x3) + x2) r14.2)))))))
def fX6_lay_205 (x1 : Int32) (σ : St_) : Option (Int32 × St_) := some (x1, uS σ 4 1)
def fX6_lay_174 : Nat → Int32 → Int32 → St_ → Option (Int32 × St_)
  | 0, _, _, _ => none
  | n + 1, x1, x2, σ => (if 100 ≤ x2 then fX6_lay_205  x1 σ else (gd_ x2 100 fun j18 => (gd_ x2 100 fun j19 => (gd_ x2 100 fun j20 => fX6_lay_174  n x1 (x2 + 1) (uM (uM σ 17 j19 (vp_nar .boolean (sM σ 20 j18))) 19 j20 0)))))
def fX6_lay_172 (x1 : Int32) (σ : St_) : Option (Int32 × St_) := fX6_lay_174  FU_ x1 0 σ
def fX6_lay_85 : Nat → Int32 → Int32 → St_ → Option (Int32 × St_)
  | 0, _, _, _ => none
  | n + 1, x1, x2, σ => (if (sS σ 2) ≤ x2 then fX6_lay_172  x1 σ else fX6_lay_95 (fX6_lay_85  n) FU_ x1 x2 0 σ)
def fX6_lay_78 (σ : St_) : Option (Int32 × St_) := (bn_ (fX6_most σ) fun r8 => fX6_lay_85  FU_ r8.1 0 r8.2)
def fX6_lay_11 : Nat → Int32 → St_ → Option (Int32 × St_)
  | 0, _, _ => none
  | n + 1, x1, σ => (if 100 ≤ x1 then fX6_lay_78  σ else (gd_ x1 100 fun j2 => (if (sS (uM σ 20 j2 (vp_nar .boolean 0)) 2) ≤ (x1 / 10) then fX6_lay_70 (fX6_lay_11  n) x1 x1 (uM σ 20 j2 (vp_nar .boolean 0)) else (if (sS (uM σ 20 j2 (vp_nar .boolean 0)) 2) ≤ (x1 - x1 / 10 * 10) then fX6_lay_70 (fX6_lay_11  n) x1 x1 (uM σ 20 j2 (vp_nar .boolean 0)) else (bn_ (fX6_isBarred (x1 / 10) (x1 - x1 / 10 * 10) (uM σ 20 j2 (vp_nar .boolean 0))) fun r3 => (if r3 = 0 then fX6_lay_71 (fX6_lay_11  n) x1 1 x1 (uM σ 20 j2 (vp_nar .boolean 0)) else fX6_lay_70 (fX6_lay_11  n) x1 x1 (uM σ 20 j2 (vp_nar .boolean 0))))))))
def fX6_lay (σ : St_) : Option (Int32 × St_) := (if (sS σ 4) = 0 then fX6_lay_11  FU_ 0 σ else some ((-1), σ))
set_option maxHeartbeats 4000000 in
set_option maxRecDepth 20000 in
theorem vX6_lay_71 {p : Program} {l : Launch} {e : Env} {s : State} {m : MethodId} {args : Array Value} {below : List Frame} {meth : Method} {c : Code} {D : va_G} {A : Nat → Prop} {Q : State → Prop} {cy : Nat → ClassId} {ad : Nat → Nat} {k11 : Int32 → St_ → Option (Int32 × St_)} {res : Int32 × St_} (C : vv_X p s m args meth c D (tysW cy) A 5 cX6_lay RX6 wsX6_lay) (h0 : en_T A s) (hr : rt_I p l e rmX6_lay s m args below meth c D A 5 Q cX6_lay .int (wM cy ad res.2) res.1) (hk11 : ∀ (x1 : Int32) (σ : St_), k11 x1 σ = some res → vv_ p l e rmX6_lay s m args below meth c D A 5 Q 0 0 (wM cy ad σ) [(0, .ref (ad 29)), (1, .int x1)] 11 []) : ∀ (x1 : Int32) (t0 : Int32) (t1 : Int32) (σ : St_), fX6_lay_71 k11 x1 t0 t1 σ = some res → vv_ p l e rmX6_lay s m args below meth c D A 5 Q 0 0 (wM cy ad σ) [(0, .ref (ad 29)), (1, .int x1)] 71 [.int t0, .int t1, .ref (ad 21)] := by
  intro x1 t0 t1 σ hF
  replace hF : ((gd_ t1 100 fun j9 => k11 (x1 + 1) (uM σ 21 j9 (vp_nar .boolean t0))) : Option (Int32 × St_)) = some res := hF
  refine vv_zast (w' := fun j9 => (wM cy ad (uM σ 21 j9 (vp_nar .boolean t0)))) C 17 1 (wM_g21 cy ad _) (tysW_1 cy) hF dX6_lay_71 (fun _ => wM_a21 _ _ _ _) (fun j9 hj9 hF => ?_)
  refine vv_iinc (q := 1) (v := x1 + 1) (lv' := [(1, .int (x1 + 1)), (0, .ref (ad 29))]) C dX6_lay_72 rfl rfl (by decide) rfl ?_
  refine vv_goto (tgt := 11) C dX6_lay_75 (by decide) ?_
  refine vv_lv [1, 0] rfl ?_
  exact hk11 (x1 + 1) (uM σ 21 j9 (vp_nar .boolean t0))  hF
set_option maxHeartbeats 4000000 in
set_option maxRecDepth 20000 in
theorem vX6_lay_70 {p : Program} {l : Launch} {e : Env} {s : State} {m : MethodId} {args : Array Value} {below : List Frame} {meth : Method} {c : Code} {D : va_G} {A : Nat → Prop} {Q : State → Prop} {cy : Nat → ClassId} {ad : Nat → Nat} {k11 : Int32 → St_ → Option (Int32 × St_)} {res : Int32 × St_} (C : vv_X p s m args meth c D (tysW cy) A 5 cX6_lay RX6 wsX6_lay) (h0 : en_T A s) (hr : rt_I p l e rmX6_lay s m args below meth c D A 5 Q cX6_lay .int (wM cy ad res.2) res.1) (hk11 : ∀ (x1 : Int32) (σ : St_), k11 x1 σ = some res → vv_ p l e rmX6_lay s m args below meth c D A 5 Q 0 0 (wM cy ad σ) [(0, .ref (ad 29)), (1, .int x1)] 11 []) : ∀ (x1 : Int32) (t0 : Int32) (σ : St_), fX6_lay_70 k11 x1 t0 σ = some res → vv_ p l e rmX6_lay s m args below meth c D A 5 Q 0 0 (wM cy ad σ) [(0, .ref (ad 29)), (1, .int x1)] 70 [.int t0, .ref (ad 21)] := by
  intro x1 t0 σ hF
  replace hF : (fX6_lay_71 (k11) x1 0 t0 σ : Option (Int32 × St_)) = some res := hF
  refine vv_iconst (v := 0) C dX6_lay_70 (by decide) ?_
  refine vv_lv [0, 1] rfl ?_
  exact vX6_lay_71 C h0 hr (hk11) x1 0 t0 σ  hF
set_option maxHeartbeats 4000000 in
set_option maxRecDepth 20000 in
theorem vX6_lay_160 {p : Program} {l : Launch} {e : Env} {s : State} {m : MethodId} {args : Array Value} {below : List Frame} {meth : Method} {c : Code} {D : va_G} {A : Nat → Prop} {Q : State → Prop} {cy : Nat → ClassId} {ad : Nat → Nat} {k85 : Int32 → Int32 → St_ → Option (Int32 × St_)} {k95 : Int32 → Int32 → Int32 → St_ → Option (Int32 × St_)} {res : Int32 × St_} (C : vv_X p s m args meth c D (tysW cy) A 5 cX6_lay RX6 wsX6_lay) (h0 : en_T A s) (hr : rt_I p l e rmX6_lay s m args below meth c D A 5 Q cX6_lay .int (wM cy ad res.2) res.1) (hk85 : ∀ (x1 : Int32) (x2 : Int32) (σ : St_), k85 x1 x2 σ = some res → vv_ p l e rmX6_lay s m args below meth c D A 5 Q 0 0 (wM cy ad σ) [(0, .ref (ad 29)), (1, .int x1), (2, .int x2)] 85 []) (hk95 : ∀ (x1 : Int32) (x2 : Int32) (x3 : Int32) (σ : St_), k95 x1 x2 x3 σ = some res → vv_ p l e rmX6_lay s m args below meth c D A 5 Q 0 0 (wM cy ad σ) [(0, .ref (ad 29)), (1, .int x1), (2, .int x2), (3, .int x3)] 95 []) : ∀ (x1 : Int32) (x2 : Int32) (x3 : Int32) (σ : St_), fX6_lay_160 k85 k95 x1 x2 x3 σ = some res → vv_ p l e rmX6_lay s m args below meth c D A 5 Q 0 0 (wM cy ad σ) [(0, .ref (ad 29)), (1, .int x1), (2, .int x2), (3, .int x3)] 160 [] := by
  intro x1 x2 x3 σ hF
  replace hF : (k95 x1 x2 (x3 + 1) σ : Option (Int32 × St_)) = some res := hF
  refine vv_iinc (q := 3) (v := x3 + 1) (lv' := [(3, .int (x3 + 1)), (0, .ref (ad 29)), (1, .int x1), (2, .int x2)]) C dX6_lay_160 rfl rfl (by decide) rfl ?_
  refine vv_goto (tgt := 95) C dX6_lay_163 (by decide) ?_
  refine vv_lv [1, 2, 3, 0] rfl ?_
  exact hk95 x1 x2 (x3 + 1) σ  hF
set_option maxHeartbeats 4000000 in
set_option maxRecDepth 20000 in
theorem vX6_lay_159 {p : Program} {l : Launch} {e : Env} {s : State} {m : MethodId} {args : Array Value} {below : List Frame} {meth : Method} {c : Code} {D : va_G} {A : Nat → Prop} {Q : State → Prop} {cy : Nat → ClassId} {ad : Nat → Nat} {k85 : Int32 → Int32 → St_ → Option (Int32 × St_)} {k95 : Int32 → Int32 → Int32 → St_ → Option (Int32 × St_)} {res : Int32 × St_} (C : vv_X p s m args meth c D (tysW cy) A 5 cX6_lay RX6 wsX6_lay) (h0 : en_T A s) (hr : rt_I p l e rmX6_lay s m args below meth c D A 5 Q cX6_lay .int (wM cy ad res.2) res.1) (hk85 : ∀ (x1 : Int32) (x2 : Int32) (σ : St_), k85 x1 x2 σ = some res → vv_ p l e rmX6_lay s m args below meth c D A 5 Q 0 0 (wM cy ad σ) [(0, .ref (ad 29)), (1, .int x1), (2, .int x2)] 85 []) (hk95 : ∀ (x1 : Int32) (x2 : Int32) (x3 : Int32) (σ : St_), k95 x1 x2 x3 σ = some res → vv_ p l e rmX6_lay s m args below meth c D A 5 Q 0 0 (wM cy ad σ) [(0, .ref (ad 29)), (1, .int x1), (2, .int x2), (3, .int x3)] 95 []) : ∀ (x1 : Int32) (x2 : Int32) (x3 : Int32) (t0 : Int32) (t1 : Int32) (σ : St_), fX6_lay_159 k85 k95 x1 x2 x3 t0 t1 σ = some res → vv_ p l e rmX6_lay s m args below meth c D A 5 Q 0 0 (wM cy ad σ) [(0, .ref (ad 29)), (1, .int x1), (2, .int x2), (3, .int x3)] 159 [.int t0, .int t1, .ref (ad 20)] := by
  intro x1 x2 x3 t0 t1 σ hF
  replace hF : ((gd_ t1 100 fun j22 => fX6_lay_160 (k85) (k95) x1 x2 x3 (uM σ 20 j22 (vp_nar .boolean t0))) : Option (Int32 × St_)) = some res := hF
  refine vv_zast (w' := fun j22 => (wM cy ad (uM σ 20 j22 (vp_nar .boolean t0)))) C 16 1 (wM_g20 cy ad _) (tysW_1 cy) hF dX6_lay_159 (fun _ => wM_a20 _ _ _ _) (fun j22 hj22 hF => ?_)
  refine vv_lv [0, 1, 2, 3] rfl ?_
  exact vX6_lay_160 C h0 hr (hk85) (hk95) x1 x2 x3 (uM σ 20 j22 (vp_nar .boolean t0))  hF
set_option maxHeartbeats 4000000 in
set_option maxRecDepth 20000 in
theorem vX6_lay_166 {p : Program} {l : Launch} {e : Env} {s : State} {m : MethodId} {args : Array Value} {below : List Frame} {meth : Method} {c : Code} {D : va_G} {A : Nat → Prop} {Q : State → Prop} {cy : Nat → ClassId} {ad : Nat → Nat} {k85 : Int32 → Int32 → St_ → Option (Int32 × St_)} {res : Int32 × St_} (C : vv_X p s m args meth c D (tysW cy) A 5 cX6_lay RX6 wsX6_lay) (h0 : en_T A s) (hr : rt_I p l e rmX6_lay s m args below meth c D A 5 Q cX6_lay .int (wM cy ad res.2) res.1) (hk85 : ∀ (x1 : Int32) (x2 : Int32) (σ : St_), k85 x1 x2 σ = some res → vv_ p l e rmX6_lay s m args below meth c D A 5 Q 0 0 (wM cy ad σ) [(0, .ref (ad 29)), (1, .int x1), (2, .int x2)] 85 []) : ∀ (x1 : Int32) (x2 : Int32) (σ : St_), fX6_lay_166 k85 x1 x2 σ = some res → vv_ p l e rmX6_lay s m args below meth c D A 5 Q 0 0 (wM cy ad σ) [(0, .ref (ad 29)), (1, .int x1), (2, .int x2)] 166 [] := by
  intro x1 x2 σ hF
  replace hF : (k85 x1 (x2 + 1) σ : Option (Int32 × St_)) = some res := hF
  refine vv_iinc (q := 2) (v := x2 + 1) (lv' := [(2, .int (x2 + 1)), (0, .ref (ad 29)), (1, .int x1)]) C dX6_lay_166 rfl rfl (by decide) rfl ?_
  refine vv_goto (tgt := 85) C dX6_lay_169 (by decide) ?_
  refine vv_lv [1, 2, 0] rfl ?_
  exact hk85 x1 (x2 + 1) σ  hF
set_option maxHeartbeats 4000000 in
set_option maxRecDepth 20000 in
theorem vX6_lay_95 {p : Program} {l : Launch} {e : Env} {s : State} {m : MethodId} {args : Array Value} {below : List Frame} {meth : Method} {c : Code} {D : va_G} {A : Nat → Prop} {Q : State → Prop} {cy : Nat → ClassId} {ad : Nat → Nat} {k85 : Int32 → Int32 → St_ → Option (Int32 × St_)} {res : Int32 × St_} (C : vv_X p s m args meth c D (tysW cy) A 5 cX6_lay RX6 wsX6_lay) (h0 : en_T A s) (hr : rt_I p l e rmX6_lay s m args below meth c D A 5 Q cX6_lay .int (wM cy ad res.2) res.1) (hk85 : ∀ (x1 : Int32) (x2 : Int32) (σ : St_), k85 x1 x2 σ = some res → vv_ p l e rmX6_lay s m args below meth c D A 5 Q 0 0 (wM cy ad σ) [(0, .ref (ad 29)), (1, .int x1), (2, .int x2)] 85 []) : ∀ (n : Nat) (x1 : Int32) (x2 : Int32) (x3 : Int32) (σ : St_), fX6_lay_95 k85 n x1 x2 x3 σ = some res → vv_ p l e rmX6_lay s m args below meth c D A 5 Q 0 0 (wM cy ad σ) [(0, .ref (ad 29)), (1, .int x1), (2, .int x2), (3, .int x3)] 95 [] := by
  intro n
  induction n with
  | zero =>
    intro x1 x2 x3 σ hF
    cases (show none = some res from hF)
  | succ n ih =>
    intro x1 x2 x3 σ hF
    replace hF : ((if (sS σ 2) ≤ x3 then fX6_lay_166 (k85) x1 x2 σ else (gd_ ((10 * x3) + x2) 100 fun j11 => (if (sM σ 21 j11) = 0 then fX6_lay_160 (k85) (fX6_lay_95 k85 n) x1 x2 x3 σ else (gd_ ((10 * x3) + x2) 100 fun j12 => (gd_ ((10 * x3) + x2) 100 fun j13 => (bn_ (fX6_most (uM (uM σ 21 j12 (vp_nar .boolean 0)) 20 j13 (vp_nar .boolean 1))) fun r14 => (if r14.1 = x1 then fX6_lay_159 (k85) (fX6_lay_95 k85 n) x1 x2 x3 1 ((10 * x3) + x2) r14.2 else fX6_lay_159 (k85) (fX6_lay_95 k85 n) x1 x2 x3 0 ((10 * x3) + x2) r14.2))))))) : Option (Int32 × St_)) = some res := hF
    refine vv_iload_n C dX6_lay_95 3 rfl ?_
    refine vv_aload_n C dX6_lay_96 0 rfl ?_
    refine vv_get (v := .int (sS σ 2)) C (hi_X6_lay_X6) 25 (wM_g29 cy ad _) rfl 2 (by decide) (List.mem_of_getElem? (i := 4) rfl) rfl dX6_lay_97 ?_
    refine vv_icmp_ge (tgt := 166) C dX6_lay_100 (by decide) hF (fun c17 hF => ?_) (fun c17 hF => ?_)
    · refine vv_lv [0, 1, 2] rfl ?_
      exact vX6_lay_166 C h0 hr (hk85) x1 x2 σ  hF
    · refine vv_bipush (v := 10) C dX6_lay_103 (by decide) ?_
      refine vv_iload_n C dX6_lay_105 3 rfl ?_
      refine vv_imul C dX6_lay_106 ?_
      refine vv_iload_n C dX6_lay_107 2 rfl ?_
      refine vv_iadd C dX6_lay_108 ?_
      refine vv_istore (lv' := [(4, .int ((10 * x3) + x2)), (0, .ref (ad 29)), (1, .int x1), (2, .int x2), (3, .int x3)]) C dX6_lay_109 (by decide) rfl ?_
      refine vv_aload_n C dX6_lay_111 1 rfl ?_
      refine vv_get (v := .ref (ad 21)) C (hi_X6_lay_X6) 25 (wM_g29 cy ad _) rfl 21 (by decide) (List.mem_of_getElem? (i := 3) rfl) rfl dX6_lay_112 ?_
      refine vv_iload C dX6_lay_115 0 rfl ?_
      refine vv_zald C 17 1 (wM_g21 cy ad _) (tysW_1 cy) hF dX6_lay_117 (fun j11 hj11 hF => ?_)
      refine vv_if_ne (tgt := 124) C dX6_lay_118 (by decide) hF (fun c16 hF => ?_) (fun c16 hF => ?_)
      · refine vv_aload_n C dX6_lay_124 1 rfl ?_
        refine vv_get (v := .ref (ad 21)) C (hi_X6_lay_X6) 25 (wM_g29 cy ad _) rfl 21 (by decide) (List.mem_of_getElem? (i := 3) rfl) rfl dX6_lay_125 ?_
        refine vv_iload C dX6_lay_128 0 rfl ?_
        refine vv_iconst (v := 0) C dX6_lay_130 (by decide) ?_
        refine vv_zast (w' := fun j12 => (wM cy ad (uM σ 21 j12 (vp_nar .boolean 0)))) C 17 1 (wM_g21 cy ad _) (tysW_1 cy) hF dX6_lay_131 (fun _ => wM_a21 _ _ _ _) (fun j12 hj12 hF => ?_)
        refine vv_aload_n C dX6_lay_132 1 rfl ?_
        refine vv_get (v := .ref (ad 20)) C (hi_X6_lay_X6) 25 (wM_g29 cy ad _) rfl 20 (by decide) (List.mem_of_getElem? (i := 2) rfl) rfl dX6_lay_133 ?_
        refine vv_iload C dX6_lay_136 0 rfl ?_
        refine vv_iconst (v := 1) C dX6_lay_138 (by decide) ?_
        refine vv_zast (w' := fun j13 => (wM cy ad (uM (uM σ 21 j12 (vp_nar .boolean 0)) 20 j13 (vp_nar .boolean 1)))) C 16 1 (wM_g20 cy ad _) (tysW_1 cy) hF dX6_lay_139 (fun _ => wM_a20 _ _ _ _) (fun j13 hj13 hF => ?_)
        refine vv_aload_n C dX6_lay_140 1 rfl ?_
        refine vv_get (v := .ref (ad 20)) C (hi_X6_lay_X6) 25 (wM_g29 cy ad _) rfl 20 (by decide) (List.mem_of_getElem? (i := 2) rfl) rfl dX6_lay_141 ?_
        refine vv_iload C dX6_lay_144 0 rfl ?_
        refine vv_aload_n C dX6_lay_146 1 rfl ?_
        refine vv_callVi (fun r14 => r14.1) (fun r14 => (wM cy ad r14.2)) C en_ok h0 [] [.int ((10 * x3) + x2), .ref (ad 20)] 0 hF (fun r14 hr14 => kX6_most l D cy ad (uM (uM σ 21 j12 (vp_nar .boolean 0)) 20 j13 (vp_nar .boolean 1)) r14  hr14) gX6_lay_X6_most rfl rfl rfl (by decide +kernel) ⟨by decide, by decide⟩ 25 (wM_g29 cy ad _) rfl rfl rfl (Nat.le_of_ble_eq_true rfl) dX6_lay_147 ⟨by decide, by decide⟩ (fun r14 hqr14 hF => ?_)
        refine vv_iload_n C dX6_lay_150 2 rfl ?_
        refine vv_icmp_ne (tgt := 158) C dX6_lay_151 (by decide) hF (fun c15 hF => ?_) (fun c15 hF => ?_)
        · refine vv_iconst (v := 0) C dX6_lay_158 (by decide) ?_
          refine vv_lv [1, 2, 3, 4] rfl ?_
          exact vX6_lay_159 C h0 hr (hk85) (ih) x1 x2 x3 0 ((10 * x3) + x2) r14.2  hF
        · refine vv_iconst (v := 1) C dX6_lay_154 (by decide) ?_
          refine vv_goto (tgt := 159) C dX6_lay_155 (by decide) ?_
          refine vv_lv [1, 2, 3, 4] rfl ?_
          exact vX6_lay_159 C h0 hr (hk85) (ih) x1 x2 x3 1 ((10 * x3) + x2) r14.2  hF
      · refine vv_goto (tgt := 160) C dX6_lay_121 (by decide) ?_
        refine vv_lv [1, 2, 3, 4] rfl ?_
        exact vX6_lay_160 C h0 hr (hk85) (ih) x1 x2 x3 σ  hF
set_option maxHeartbeats 4000000 in
set_option maxRecDepth 20000 in
theorem vX6_lay_205 {p : Program} {l : Launch} {e : Env} {s : State} {m : MethodId} {args : Array Value} {below : List Frame} {meth : Method} {c : Code} {D : va_G} {A : Nat → Prop} {Q : State → Prop} {cy : Nat → ClassId} {ad : Nat → Nat} {res : Int32 × St_} (C : vv_X p s m args meth c D (tysW cy) A 5 cX6_lay RX6 wsX6_lay) (h0 : en_T A s) (hr : rt_I p l e rmX6_lay s m args below meth c D A 5 Q cX6_lay .int (wM cy ad res.2) res.1) : ∀ (x1 : Int32) (σ : St_), fX6_lay_205  x1 σ = some res → vv_ p l e rmX6_lay s m args below meth c D A 5 Q 0 0 (wM cy ad σ) [(0, .ref (ad 29)), (1, .int x1)] 205 [] := by
  intro x1 σ hF
  replace hF : (some (x1, uS σ 4 1) : Option (Int32 × St_)) = some res := hF
  refine vv_aload_n C dX6_lay_205 0 rfl ?_
  refine vv_iconst (v := 1) C dX6_lay_206 (by decide) ?_
  refine vv_put (w' := (wM cy ad (uS σ 4 1))) C (hi_X6_lay_X6) tyX6 tyX6_ok nmX6 25 (wM_g29 cy ad _) rfl 4 (by decide) (List.mem_of_getElem? (i := 1) rfl) rfl (by decide +kernel) (by decide +kernel) (Nat.le_of_ble_eq_true rfl) dX6_lay_207 (wM_s4 _ _ _ _) ?_
  refine vv_iload_n C dX6_lay_210 1 rfl ?_
  cases hF
  exact hr _ _ dX6_lay_211 rfl
set_option maxHeartbeats 4000000 in
set_option maxRecDepth 20000 in
theorem vX6_lay_174 {p : Program} {l : Launch} {e : Env} {s : State} {m : MethodId} {args : Array Value} {below : List Frame} {meth : Method} {c : Code} {D : va_G} {A : Nat → Prop} {Q : State → Prop} {cy : Nat → ClassId} {ad : Nat → Nat} {res : Int32 × St_} (C : vv_X p s m args meth c D (tysW cy) A 5 cX6_lay RX6 wsX6_lay) (h0 : en_T A s) (hr : rt_I p l e rmX6_lay s m args below meth c D A 5 Q cX6_lay .int (wM cy ad res.2) res.1) : ∀ (n : Nat) (x1 : Int32) (x2 : Int32) (σ : St_), fX6_lay_174  n x1 x2 σ = some res → vv_ p l e rmX6_lay s m args below meth c D A 5 Q 0 0 (wM cy ad σ) [(0, .ref (ad 29)), (1, .int x1), (2, .int x2)] 174 [] := by
  intro n
  induction n with
  | zero =>
    intro x1 x2 σ hF
    cases (show none = some res from hF)
  | succ n ih =>
    intro x1 x2 σ hF
    replace hF : ((if 100 ≤ x2 then fX6_lay_205  x1 σ else (gd_ x2 100 fun j18 => (gd_ x2 100 fun j19 => (gd_ x2 100 fun j20 => fX6_lay_174  n x1 (x2 + 1) (uM (uM σ 17 j19 (vp_nar .boolean (sM σ 20 j18))) 19 j20 0))))) : Option (Int32 × St_)) = some res := hF
    refine vv_iload_n C dX6_lay_174 2 rfl ?_
    refine vv_bipush (v := 100) C dX6_lay_175 (by decide) ?_
    refine vv_icmp_ge (tgt := 205) C dX6_lay_177 (by decide) hF (fun c21 hF => ?_) (fun c21 hF => ?_)
    · refine vv_lv [0, 1] rfl ?_
      exact vX6_lay_205 C h0 hr  x1 σ  hF
    · refine vv_aload_n C dX6_lay_180 0 rfl ?_
      refine vv_get (v := .ref (ad 17)) C (hi_X6_lay_X6) 25 (wM_g29 cy ad _) rfl 17 (by decide) (List.mem_of_getElem? (i := 5) rfl) rfl dX6_lay_181 ?_
      refine vv_iload_n C dX6_lay_184 2 rfl ?_
      refine vv_aload_n C dX6_lay_185 0 rfl ?_
      refine vv_get (v := .ref (ad 20)) C (hi_X6_lay_X6) 25 (wM_g29 cy ad _) rfl 20 (by decide) (List.mem_of_getElem? (i := 2) rfl) rfl dX6_lay_186 ?_
      refine vv_iload_n C dX6_lay_189 2 rfl ?_
      refine vv_zald C 16 1 (wM_g20 cy ad _) (tysW_1 cy) hF dX6_lay_190 (fun j18 hj18 hF => ?_)
      refine vv_zast (w' := fun j19 => (wM cy ad (uM σ 17 j19 (vp_nar .boolean (sM σ 20 j18))))) C 13 1 (wM_g17 cy ad _) (tysW_1 cy) hF dX6_lay_191 (fun _ => wM_a17 _ _ _ _) (fun j19 hj19 hF => ?_)
      refine vv_aload_n C dX6_lay_192 0 rfl ?_
      refine vv_get (v := .ref (ad 19)) C (hi_X6_lay_X6) 25 (wM_g29 cy ad _) rfl 19 (by decide) (List.mem_of_getElem? (i := 6) rfl) rfl dX6_lay_193 ?_
      refine vv_iload_n C dX6_lay_196 2 rfl ?_
      refine vv_iconst (v := 0) C dX6_lay_197 (by decide) ?_
      refine vv_iast (w' := fun j20 => (wM cy ad (uM (uM σ 17 j19 (vp_nar .boolean (sM σ 20 j18))) 19 j20 0))) C 15 0 (wM_g19 cy ad _) (tysW_0 cy) hF dX6_lay_198 (fun _ => wM_a19 _ _ _ _) (fun j20 hj20 hF => ?_)
      refine vv_iinc (q := 2) (v := x2 + 1) (lv' := [(2, .int (x2 + 1)), (0, .ref (ad 29)), (1, .int x1)]) C dX6_lay_199 rfl rfl (by decide) rfl ?_
      refine vv_goto (tgt := 174) C dX6_lay_202 (by decide) ?_
      refine vv_lv [1, 2, 0] rfl ?_
      exact ih x1 (x2 + 1) (uM (uM σ 17 j19 (vp_nar .boolean (sM σ 20 j18))) 19 j20 0)  hF
set_option maxHeartbeats 4000000 in
set_option maxRecDepth 20000 in
theorem vX6_lay_172 {p : Program} {l : Launch} {e : Env} {s : State} {m : MethodId} {args : Array Value} {below : List Frame} {meth : Method} {c : Code} {D : va_G} {A : Nat → Prop} {Q : State → Prop} {cy : Nat → ClassId} {ad : Nat → Nat} {res : Int32 × St_} (C : vv_X p s m args meth c D (tysW cy) A 5 cX6_lay RX6 wsX6_lay) (h0 : en_T A s) (hr : rt_I p l e rmX6_lay s m args below meth c D A 5 Q cX6_lay .int (wM cy ad res.2) res.1) : ∀ (x1 : Int32) (σ : St_), fX6_lay_172  x1 σ = some res → vv_ p l e rmX6_lay s m args below meth c D A 5 Q 0 0 (wM cy ad σ) [(0, .ref (ad 29)), (1, .int x1)] 172 [] := by
  intro x1 σ hF
  replace hF : (fX6_lay_174  FU_ x1 0 σ : Option (Int32 × St_)) = some res := hF
  refine vv_iconst (v := 0) C dX6_lay_172 (by decide) ?_
  refine vv_istore_n (lv' := [(2, .int 0), (0, .ref (ad 29)), (1, .int x1)]) C dX6_lay_173 (by decide) rfl ?_
  refine vv_lv [1, 2, 0] rfl ?_
  exact vX6_lay_174 C h0 hr  FU_ x1 0 σ  hF
set_option maxHeartbeats 4000000 in
set_option maxRecDepth 20000 in
theorem vX6_lay_85 {p : Program} {l : Launch} {e : Env} {s : State} {m : MethodId} {args : Array Value} {below : List Frame} {meth : Method} {c : Code} {D : va_G} {A : Nat → Prop} {Q : State → Prop} {cy : Nat → ClassId} {ad : Nat → Nat} {res : Int32 × St_} (C : vv_X p s m args meth c D (tysW cy) A 5 cX6_lay RX6 wsX6_lay) (h0 : en_T A s) (hr : rt_I p l e rmX6_lay s m args below meth c D A 5 Q cX6_lay .int (wM cy ad res.2) res.1) : ∀ (n : Nat) (x1 : Int32) (x2 : Int32) (σ : St_), fX6_lay_85  n x1 x2 σ = some res → vv_ p l e rmX6_lay s m args below meth c D A 5 Q 0 0 (wM cy ad σ) [(0, .ref (ad 29)), (1, .int x1), (2, .int x2)] 85 [] := by
  intro n
  induction n with
  | zero =>
    intro x1 x2 σ hF
    cases (show none = some res from hF)
  | succ n ih =>
    intro x1 x2 σ hF
    replace hF : ((if (sS σ 2) ≤ x2 then fX6_lay_172  x1 σ else fX6_lay_95 (fX6_lay_85  n) FU_ x1 x2 0 σ) : Option (Int32 × St_)) = some res := hF
    refine vv_iload_n C dX6_lay_85 2 rfl ?_
    refine vv_aload_n C dX6_lay_86 0 rfl ?_
    refine vv_get (v := .int (sS σ 2)) C (hi_X6_lay_X6) 25 (wM_g29 cy ad _) rfl 2 (by decide) (List.mem_of_getElem? (i := 4) rfl) rfl dX6_lay_87 ?_
    refine vv_icmp_ge (tgt := 172) C dX6_lay_90 (by decide) hF (fun c10 hF => ?_) (fun c10 hF => ?_)
    · refine vv_lv [0, 1] rfl ?_
      exact vX6_lay_172 C h0 hr  x1 σ  hF
    · refine vv_iconst (v := 0) C dX6_lay_93 (by decide) ?_
      refine vv_istore_n (lv' := [(3, .int 0), (0, .ref (ad 29)), (1, .int x1), (2, .int x2)]) C dX6_lay_94 (by decide) rfl ?_
      refine vv_lv [1, 2, 3, 0] rfl ?_
      exact vX6_lay_95 C h0 hr (ih) FU_ x1 x2 0 σ  hF
set_option maxHeartbeats 4000000 in
set_option maxRecDepth 20000 in
theorem vX6_lay_78 {p : Program} {l : Launch} {e : Env} {s : State} {m : MethodId} {args : Array Value} {below : List Frame} {meth : Method} {c : Code} {D : va_G} {A : Nat → Prop} {Q : State → Prop} {cy : Nat → ClassId} {ad : Nat → Nat} {res : Int32 × St_} (C : vv_X p s m args meth c D (tysW cy) A 5 cX6_lay RX6 wsX6_lay) (h0 : en_T A s) (hr : rt_I p l e rmX6_lay s m args below meth c D A 5 Q cX6_lay .int (wM cy ad res.2) res.1) : ∀ (σ : St_), fX6_lay_78  σ = some res → vv_ p l e rmX6_lay s m args below meth c D A 5 Q 0 0 (wM cy ad σ) [(0, .ref (ad 29))] 78 [] := by
  intro σ hF
  replace hF : ((bn_ (fX6_most σ) fun r8 => fX6_lay_85  FU_ r8.1 0 r8.2) : Option (Int32 × St_)) = some res := hF
  refine vv_aload_n C dX6_lay_78 0 rfl ?_
  refine vv_callVi (fun r8 => r8.1) (fun r8 => (wM cy ad r8.2)) C en_ok h0 [] [] 0 hF (fun r8 hr8 => kX6_most l D cy ad σ r8  hr8) gX6_lay_X6_most rfl rfl rfl (by decide +kernel) ⟨by decide, by decide⟩ 25 (wM_g29 cy ad _) rfl rfl rfl (Nat.le_of_ble_eq_true rfl) dX6_lay_79 ⟨by decide, by decide⟩ (fun r8 hqr8 hF => ?_)
  refine vv_istore_n (lv' := [(1, .int r8.1), (0, .ref (ad 29))]) C dX6_lay_82 (by decide) rfl ?_
  refine vv_iconst (v := 0) C dX6_lay_83 (by decide) ?_
  refine vv_istore_n (lv' := [(2, .int 0), (1, .int r8.1), (0, .ref (ad 29))]) C dX6_lay_84 (by decide) rfl ?_
  refine vv_lv [2, 1, 0] rfl ?_
  exact vX6_lay_85 C h0 hr  FU_ r8.1 0 r8.2  hF
set_option maxHeartbeats 4000000 in
set_option maxRecDepth 20000 in
theorem vX6_lay_11 {p : Program} {l : Launch} {e : Env} {s : State} {m : MethodId} {args : Array Value} {below : List Frame} {meth : Method} {c : Code} {D : va_G} {A : Nat → Prop} {Q : State → Prop} {cy : Nat → ClassId} {ad : Nat → Nat} {res : Int32 × St_} (C : vv_X p s m args meth c D (tysW cy) A 5 cX6_lay RX6 wsX6_lay) (h0 : en_T A s) (hr : rt_I p l e rmX6_lay s m args below meth c D A 5 Q cX6_lay .int (wM cy ad res.2) res.1) : ∀ (n : Nat) (x1 : Int32) (σ : St_), fX6_lay_11  n x1 σ = some res → vv_ p l e rmX6_lay s m args below meth c D A 5 Q 0 0 (wM cy ad σ) [(0, .ref (ad 29)), (1, .int x1)] 11 [] := by
  intro n
  induction n with
  | zero =>
    intro x1 σ hF
    cases (show none = some res from hF)
  | succ n ih =>
    intro x1 σ hF
    replace hF : ((if 100 ≤ x1 then fX6_lay_78  σ else (gd_ x1 100 fun j2 => (if (sS (uM σ 20 j2 (vp_nar .boolean 0)) 2) ≤ (x1 / 10) then fX6_lay_70 (fX6_lay_11  n) x1 x1 (uM σ 20 j2 (vp_nar .boolean 0)) else (if (sS (uM σ 20 j2 (vp_nar .boolean 0)) 2) ≤ (x1 - x1 / 10 * 10) then fX6_lay_70 (fX6_lay_11  n) x1 x1 (uM σ 20 j2 (vp_nar .boolean 0)) else (bn_ (fX6_isBarred (x1 / 10) (x1 - x1 / 10 * 10) (uM σ 20 j2 (vp_nar .boolean 0))) fun r3 => (if r3 = 0 then fX6_lay_71 (fX6_lay_11  n) x1 1 x1 (uM σ 20 j2 (vp_nar .boolean 0)) else fX6_lay_70 (fX6_lay_11  n) x1 x1 (uM σ 20 j2 (vp_nar .boolean 0)))))))) : Option (Int32 × St_)) = some res := hF
    refine vv_iload_n C dX6_lay_11 1 rfl ?_
    refine vv_bipush (v := 100) C dX6_lay_12 (by decide) ?_
    refine vv_icmp_ge (tgt := 78) C dX6_lay_14 (by decide) hF (fun c7 hF => ?_) (fun c7 hF => ?_)
    · refine vv_lv [0] rfl ?_
      exact vX6_lay_78 C h0 hr  σ  hF
    · refine vv_aload_n C dX6_lay_17 0 rfl ?_
      refine vv_get (v := .ref (ad 20)) C (hi_X6_lay_X6) 25 (wM_g29 cy ad _) rfl 20 (by decide) (List.mem_of_getElem? (i := 2) rfl) rfl dX6_lay_18 ?_
      refine vv_iload_n C dX6_lay_21 1 rfl ?_
      refine vv_iconst (v := 0) C dX6_lay_22 (by decide) ?_
      refine vv_zast (w' := fun j2 => (wM cy ad (uM σ 20 j2 (vp_nar .boolean 0)))) C 16 1 (wM_g20 cy ad _) (tysW_1 cy) hF dX6_lay_23 (fun _ => wM_a20 _ _ _ _) (fun j2 hj2 hF => ?_)
      refine vv_aload_n C dX6_lay_24 0 rfl ?_
      refine vv_get (v := .ref (ad 21)) C (hi_X6_lay_X6) 25 (wM_g29 cy ad _) rfl 21 (by decide) (List.mem_of_getElem? (i := 3) rfl) rfl dX6_lay_25 ?_
      refine vv_iload_n C dX6_lay_28 1 rfl ?_
      refine vv_iload_n C dX6_lay_29 1 rfl ?_
      refine vv_bipush (v := 10) C dX6_lay_30 (by decide) ?_
      refine vv_idiv C dX6_lay_32 (by decide) ?_
      refine vv_aload_n C dX6_lay_33 0 rfl ?_
      refine vv_get (v := .int (sS (uM σ 20 j2 (vp_nar .boolean 0)) 2)) C (hi_X6_lay_X6) 25 (wM_g29 cy ad _) rfl 2 (by decide) (List.mem_of_getElem? (i := 4) rfl) rfl dX6_lay_34 ?_
      refine vv_icmp_ge (tgt := 70) C dX6_lay_37 (by decide) hF (fun c6 hF => ?_) (fun c6 hF => ?_)
      · refine vv_lv [0, 1] rfl ?_
        exact vX6_lay_70 C h0 hr (ih) x1 x1 (uM σ 20 j2 (vp_nar .boolean 0))  hF
      · refine vv_iload_n C dX6_lay_40 1 rfl ?_
        refine vv_bipush (v := 10) C dX6_lay_41 (by decide) ?_
        refine vv_irem C dX6_lay_43 (by decide) ?_
        refine vv_aload_n C dX6_lay_44 0 rfl ?_
        refine vv_get (v := .int (sS (uM σ 20 j2 (vp_nar .boolean 0)) 2)) C (hi_X6_lay_X6) 25 (wM_g29 cy ad _) rfl 2 (by decide) (List.mem_of_getElem? (i := 4) rfl) rfl dX6_lay_45 ?_
        refine vv_icmp_ge (tgt := 70) C dX6_lay_48 (by decide) hF (fun c5 hF => ?_) (fun c5 hF => ?_)
        · refine vv_lv [0, 1] rfl ?_
          exact vX6_lay_70 C h0 hr (ih) x1 x1 (uM σ 20 j2 (vp_nar .boolean 0))  hF
        · refine vv_aload_n C dX6_lay_51 0 rfl ?_
          refine vv_iload_n C dX6_lay_52 1 rfl ?_
          refine vv_bipush (v := 10) C dX6_lay_53 (by decide) ?_
          refine vv_idiv C dX6_lay_55 (by decide) ?_
          refine vv_iload_n C dX6_lay_56 1 rfl ?_
          refine vv_bipush (v := 10) C dX6_lay_57 (by decide) ?_
          refine vv_irem C dX6_lay_59 (by decide) ?_
          refine vv_callVi (fun r3 => r3) (fun r3 => (wM cy ad (uM σ 20 j2 (vp_nar .boolean 0)))) C en_ok h0 [.int (x1 / 10), .int (x1 - x1 / 10 * 10)] [.int x1, .ref (ad 21)] 2 hF (fun r3 hr3 => kX6_isBarred l D cy ad (x1 / 10) (x1 - x1 / 10 * 10) (uM σ 20 j2 (vp_nar .boolean 0)) r3  hr3) gX6_lay_X6_isBarred rfl rfl rfl (by decide +kernel) ⟨by decide, by decide⟩ 25 (wM_g29 cy ad _) rfl rfl rfl (Nat.le_of_ble_eq_true rfl) dX6_lay_60 ⟨by decide, by decide⟩ (fun r3 hqr3 hF => ?_)
          refine vv_if_ne (tgt := 70) C dX6_lay_63 (by decide) hF (fun c4 hF => ?_) (fun c4 hF => ?_)
          · refine vv_lv [0, 1] rfl ?_
            exact vX6_lay_70 C h0 hr (ih) x1 x1 (uM σ 20 j2 (vp_nar .boolean 0))  hF
          · refine vv_iconst (v := 1) C dX6_lay_66 (by decide) ?_
            refine vv_goto (tgt := 71) C dX6_lay_67 (by decide) ?_
            refine vv_lv [0, 1] rfl ?_
            exact vX6_lay_71 C h0 hr (ih) x1 1 x1 (uM σ 20 j2 (vp_nar .boolean 0))  hF
set_option maxHeartbeats 4000000 in
set_option maxRecDepth 20000 in
theorem kX6_lay (l : Launch) (D : va_G) (cy : Nat → ClassId) (ad : Nat → Nat) (σ : St_) (res : Int32 × St_)  (hF : fX6_lay σ = some res) : ct_I l D (tysW cy) en_T yX6_lay wsX6_lay rmX6_lay [.ref (ad 29)] (wM cy ad σ) res.1 (wM cy ad res.2) := by
  refine mt_I (by decide) rfl (Nat.le_of_ble_eq_true rfl) ?_
  intro p e s m args below meth c A Q C h0 hr
  replace C : vv_X p s m args meth c D (tysW cy) A 5 cX6_lay RX6 wsX6_lay := C
  replace hF : ((if (sS σ 4) = 0 then fX6_lay_11  FU_ 0 σ else some ((-1), σ)) : Option (Int32 × St_)) = some res := hF
  refine vv_lv [0] (lv' := [(0, .ref (ad 29))]) rfl ?_
  refine vv_aload_n C dX6_lay_0 0 rfl ?_
  refine vv_get (v := .int (sS σ 4)) C (hi_X6_lay_X6) 25 (wM_g29 cy ad _) rfl 4 (by decide) (List.mem_of_getElem? (i := 1) rfl) rfl dX6_lay_1 ?_
  refine vv_if_eq (tgt := 9) C dX6_lay_4 (by decide) hF (fun c1 hF => ?_) (fun c1 hF => ?_)
  · refine vv_iconst (v := 0) C dX6_lay_9 (by decide) ?_
    refine vv_istore_n (lv' := [(1, .int 0), (0, .ref (ad 29))]) C dX6_lay_10 (by decide) rfl ?_
    refine vv_lv [1, 0] rfl ?_
    exact vX6_lay_11 C h0 hr  FU_ 0 σ  hF
  · refine vv_iconst (v := (-1)) C dX6_lay_7 (by decide) ?_
    cases hF
    exact hr _ _ dX6_lay_8 rfl
