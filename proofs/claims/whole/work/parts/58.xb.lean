/-! X5_lay -/
abbrev rmX5_lay : Room := { frames := 6, cells := 0, slots := 0, locals := 140 }
theorem hi_X5_lay_X5 : ∀ w ∈ wsX50, w ∈ wsX5_lay := fun w h => List.mem_cons_of_mem _ (List.mem_append_left _ (List.mem_append_left _ (List.mem_append_left _ (List.mem_append_left _ (List.mem_append_right _ h)))))
def fX5_lay_73 (k37 : Int32 → St_ → Option (Int32 × St_)) (k47 : Int32 → Int32 → St_ → Option (Int32 × St_)) (x1 : Int32) (x2 : Int32) (σ : St_) : Option (Int32 × St_) := k47 x1 (x2 + 1) σ
def fX5_lay_79 (k37 : Int32 → St_ → Option (Int32 × St_)) (x1 : Int32) (σ : St_) : Option (Int32 × St_) := k37 (x1 + 1) σ
def fX5_lay_47 (k37 : Int32 → St_ → Option (Int32 × St_)) : Nat → Int32 → Int32 → St_ → Option (Int32 × St_)
  | 0, _, _, _ => none
  | n + 1, x1, x2, σ => (if (sS σ 5) ≤ x2 then fX5_lay_79 (k37) x1 σ else (bn_ (fX5_isBarred x2 x1 σ) fun r9 => (if r9 = 0 then (bn_ (fX1_allow x2 x1 σ) fun r10 => fX5_lay_73 (k37) (fX5_lay_47 k37 n) x1 x2 r10) else fX5_lay_73 (k37) (fX5_lay_47 k37 n) x1 x2 σ)))
def fX5_lay_135 (σ : St_) : Option (Int32 × St_) := (bn_ (fX4_setLaid σ) fun r16 => (bn_ (fX4_total r16) fun r17 => some (r17, r16)))
def fX5_lay_105 : Nat → Int32 → St_ → Option (Int32 × St_)
  | 0, _, _ => none
  | n + 1, x1, σ => (if (sS σ 5) ≤ x1 then fX5_lay_135  σ else (bn_ (fX1_visitorsOf x1 σ) fun r13 => (bn_ (fX4_setVisitors x1 r13 σ) fun r14 => fX5_lay_105  n (x1 + 1) r14)))
def fX5_lay_85 (σ : St_) : Option (Int32 × St_) := (bn_ (fX1_planMost σ) fun r7 => (bn_ (fX1_planLeastRow (sS r7 5) r7) fun r8 => fX5_lay_105  FU_ 0 r8))
def fX5_lay_37 : Nat → Int32 → St_ → Option (Int32 × St_)
  | 0, _, _ => none
  | n + 1, x1, σ => (if (sS σ 5) ≤ x1 then fX5_lay_85  σ else fX5_lay_47 (fX5_lay_37  n) FU_ x1 0 σ)
def fX5_lay (σ : St_) : Option (Int32 × St_) := (bn_ (fX4_areLaid σ) fun r1 => (if r1 = 0 then (bn_ (fX2_number 0 σ) fun r2 => (bn_ (fX2_number 1 σ) fun r3 => (bn_ (fX1_begin r2 r3 σ) fun r4 => fX5_lay_37  FU_ 0 r4))) else some ((-1), σ)))
set_option maxHeartbeats 4000000 in
set_option maxRecDepth 20000 in
theorem vX5_lay_73 {p : Program} {l : Launch} {e : Env} {s : State} {m : MethodId} {args : Array Value} {below : List Frame} {meth : Method} {c : Code} {D : va_G} {A : Nat → Prop} {Q : State → Prop} {cy : Nat → ClassId} {ad fad : Nat → Nat} {k37 : Int32 → St_ → Option (Int32 × St_)} {k47 : Int32 → Int32 → St_ → Option (Int32 × St_)} {res : Int32 × St_} (C : vv_X p s m args meth c D (tysW cy) A 3 cX5_lay RX5 wsX5_lay) (h0 : eX A s) (hr : rt_I p l e rmX5_lay s m args below meth c D A 3 Q cX5_lay .int (wX cy ad fad res.2) res.1) (hk37 : ∀ (x1 : Int32) (σ : St_), k37 x1 σ = some res → vv_ p l e rmX5_lay s m args below meth c D A 3 Q 0 0 (wX cy ad fad σ) [(0, .ref (ad 28)), (1, .int x1)] 37 []) (hk47 : ∀ (x1 : Int32) (x2 : Int32) (σ : St_), k47 x1 x2 σ = some res → vv_ p l e rmX5_lay s m args below meth c D A 3 Q 0 0 (wX cy ad fad σ) [(0, .ref (ad 28)), (1, .int x1), (2, .int x2)] 47 []) : ∀ (x1 : Int32) (x2 : Int32) (σ : St_), fX5_lay_73 k37 k47 x1 x2 σ = some res → vv_ p l e rmX5_lay s m args below meth c D A 3 Q 0 0 (wX cy ad fad σ) [(0, .ref (ad 28)), (1, .int x1), (2, .int x2)] 73 [] := by
  intro x1 x2 σ hF
  replace hF : (k47 x1 (x2 + 1) σ : Option (Int32 × St_)) = some res := hF
  refine vv_iinc (q := 2) (v := x2 + 1) (lv' := [(2, .int (x2 + 1)), (0, .ref (ad 28)), (1, .int x1)]) C dX5_lay_73 rfl rfl (by decide) rfl ?_
  refine vv_goto (tgt := 47) C dX5_lay_76 (by decide) ?_
  refine vv_lv [1, 2, 0] rfl ?_
  exact hk47 x1 (x2 + 1) σ  hF
set_option maxHeartbeats 4000000 in
set_option maxRecDepth 20000 in
theorem vX5_lay_79 {p : Program} {l : Launch} {e : Env} {s : State} {m : MethodId} {args : Array Value} {below : List Frame} {meth : Method} {c : Code} {D : va_G} {A : Nat → Prop} {Q : State → Prop} {cy : Nat → ClassId} {ad fad : Nat → Nat} {k37 : Int32 → St_ → Option (Int32 × St_)} {res : Int32 × St_} (C : vv_X p s m args meth c D (tysW cy) A 3 cX5_lay RX5 wsX5_lay) (h0 : eX A s) (hr : rt_I p l e rmX5_lay s m args below meth c D A 3 Q cX5_lay .int (wX cy ad fad res.2) res.1) (hk37 : ∀ (x1 : Int32) (σ : St_), k37 x1 σ = some res → vv_ p l e rmX5_lay s m args below meth c D A 3 Q 0 0 (wX cy ad fad σ) [(0, .ref (ad 28)), (1, .int x1)] 37 []) : ∀ (x1 : Int32) (σ : St_), fX5_lay_79 k37 x1 σ = some res → vv_ p l e rmX5_lay s m args below meth c D A 3 Q 0 0 (wX cy ad fad σ) [(0, .ref (ad 28)), (1, .int x1)] 79 [] := by
  intro x1 σ hF
  replace hF : (k37 (x1 + 1) σ : Option (Int32 × St_)) = some res := hF
  refine vv_iinc (q := 1) (v := x1 + 1) (lv' := [(1, .int (x1 + 1)), (0, .ref (ad 28))]) C dX5_lay_79 rfl rfl (by decide) rfl ?_
  refine vv_goto (tgt := 37) C dX5_lay_82 (by decide) ?_
  refine vv_lv [1, 0] rfl ?_
  exact hk37 (x1 + 1) σ  hF
set_option maxHeartbeats 4000000 in
set_option maxRecDepth 20000 in
theorem vX5_lay_47 {p : Program} {l : Launch} {e : Env} {s : State} {m : MethodId} {args : Array Value} {below : List Frame} {meth : Method} {c : Code} {D : va_G} {A : Nat → Prop} {Q : State → Prop} {cy : Nat → ClassId} {ad fad : Nat → Nat} {k37 : Int32 → St_ → Option (Int32 × St_)} {res : Int32 × St_} (C : vv_X p s m args meth c D (tysW cy) A 3 cX5_lay RX5 wsX5_lay) (h0 : eX A s) (hr : rt_I p l e rmX5_lay s m args below meth c D A 3 Q cX5_lay .int (wX cy ad fad res.2) res.1) (hk37 : ∀ (x1 : Int32) (σ : St_), k37 x1 σ = some res → vv_ p l e rmX5_lay s m args below meth c D A 3 Q 0 0 (wX cy ad fad σ) [(0, .ref (ad 28)), (1, .int x1)] 37 []) : ∀ (n : Nat) (x1 : Int32) (x2 : Int32) (σ : St_), fX5_lay_47 k37 n x1 x2 σ = some res → vv_ p l e rmX5_lay s m args below meth c D A 3 Q 0 0 (wX cy ad fad σ) [(0, .ref (ad 28)), (1, .int x1), (2, .int x2)] 47 [] := by
  intro n
  induction n with
  | zero =>
    intro x1 x2 σ hF
    cases (show none = some res from hF)
  | succ n ih =>
    intro x1 x2 σ hF
    replace hF : ((if (sS σ 5) ≤ x2 then fX5_lay_79 (k37) x1 σ else (bn_ (fX5_isBarred x2 x1 σ) fun r9 => (if r9 = 0 then (bn_ (fX1_allow x2 x1 σ) fun r10 => fX5_lay_73 (k37) (fX5_lay_47 k37 n) x1 x2 r10) else fX5_lay_73 (k37) (fX5_lay_47 k37 n) x1 x2 σ))) : Option (Int32 × St_)) = some res := hF
    refine vv_iload_n C dX5_lay_47 2 rfl ?_
    refine vv_aload_n C dX5_lay_48 0 rfl ?_
    refine vv_get (v := .int (sS σ 5)) C (hi_X5_lay_X5) 28 (wX_g28 cy ad fad _) rfl 7 (by decide) (List.mem_of_getElem? (i := 4) rfl) rfl dX5_lay_49 ?_
    refine vv_icmp_ge (tgt := 79) C dX5_lay_52 (by decide) hF (fun c12 hF => ?_) (fun c12 hF => ?_)
    · refine vv_lv [0, 1] rfl ?_
      exact vX5_lay_79 C h0 hr (hk37) x1 σ  hF
    · refine vv_aload_n C dX5_lay_55 0 rfl ?_
      refine vv_iload_n C dX5_lay_56 2 rfl ?_
      refine vv_iload_n C dX5_lay_57 1 rfl ?_
      refine vv_callVi (fun r9 => r9) (fun r9 => (wX cy ad fad σ)) C eX_ok h0 [.int x2, .int x1] [] 2 hF (fun r9 hr9 => kX5_isBarred l D cy ad fad x2 x1 σ r9  hr9) gX5_lay_X5_isBarred rfl rfl rfl (by decide +kernel) ⟨by decide, by decide⟩ 28 (wX_g28 cy ad fad _) rfl rfl rfl (Nat.le_of_ble_eq_true rfl) dX5_lay_58 ⟨by decide, by decide⟩ (fun r9 hqr9 hF => ?_)
      refine vv_if_ne (tgt := 73) C dX5_lay_61 (by decide) hF (fun c11 hF => ?_) (fun c11 hF => ?_)
      · refine vv_lv [0, 1, 2] rfl ?_
        exact vX5_lay_73 C h0 hr (hk37) (ih) x1 x2 σ  hF
      · refine vv_aload_n C dX5_lay_64 0 rfl ?_
        refine vv_get (v := .ref (ad 27)) C (hi_X5_lay_X5) 28 (wX_g28 cy ad fad _) rfl 3 (by decide) (List.mem_of_getElem? (i := 2) rfl) rfl dX5_lay_65 ?_
        refine vv_iload_n C dX5_lay_68 2 rfl ?_
        refine vv_iload_n C dX5_lay_69 1 rfl ?_
        refine vv_callVv  (fun r10 => (wX cy ad fad r10)) C eX_ok h0 [.int x2, .int x1] [] 2 hF (fun r10 hr10 => kX1_allow l D cy ad fad x2 x1 σ r10  hr10) gX5_lay_X1_allow rfl rfl rfl (by decide +kernel) ⟨by decide, by decide⟩ 27 (wX_g27 cy ad fad _) rfl rfl rfl (Nat.le_of_ble_eq_true rfl) dX5_lay_70 ⟨by decide, by decide⟩ (fun r10 hqr10 hF => ?_)
        refine vv_lv [0, 1, 2] rfl ?_
        exact vX5_lay_73 C h0 hr (hk37) (ih) x1 x2 r10  hF
set_option maxHeartbeats 4000000 in
set_option maxRecDepth 20000 in
theorem vX5_lay_135 {p : Program} {l : Launch} {e : Env} {s : State} {m : MethodId} {args : Array Value} {below : List Frame} {meth : Method} {c : Code} {D : va_G} {A : Nat → Prop} {Q : State → Prop} {cy : Nat → ClassId} {ad fad : Nat → Nat} {res : Int32 × St_} (C : vv_X p s m args meth c D (tysW cy) A 3 cX5_lay RX5 wsX5_lay) (h0 : eX A s) (hr : rt_I p l e rmX5_lay s m args below meth c D A 3 Q cX5_lay .int (wX cy ad fad res.2) res.1) : ∀ (σ : St_), fX5_lay_135  σ = some res → vv_ p l e rmX5_lay s m args below meth c D A 3 Q 0 0 (wX cy ad fad σ) [(0, .ref (ad 28))] 135 [] := by
  intro σ hF
  replace hF : ((bn_ (fX4_setLaid σ) fun r16 => (bn_ (fX4_total r16) fun r17 => some (r17, r16))) : Option (Int32 × St_)) = some res := hF
  refine vv_aload_n C dX5_lay_135 0 rfl ?_
  refine vv_get (v := .ref (ad 26)) C (hi_X5_lay_X5) 28 (wX_g28 cy ad fad _) rfl 2 (by decide) (List.mem_of_getElem? (i := 1) rfl) rfl dX5_lay_136 ?_
  refine vv_callVv  (fun r16 => (wX cy ad fad r16)) C eX_ok h0 [] [] 0 hF (fun r16 hr16 => kX4_setLaid l D cy ad fad σ r16  hr16) gX5_lay_X4_setLaid rfl rfl rfl (by decide +kernel) ⟨by decide, by decide⟩ 26 (wX_g26 cy ad fad _) rfl rfl rfl (Nat.le_of_ble_eq_true rfl) dX5_lay_139 ⟨by decide, by decide⟩ (fun r16 hqr16 hF => ?_)
  refine vv_aload_n C dX5_lay_142 0 rfl ?_
  refine vv_get (v := .ref (ad 26)) C (hi_X5_lay_X5) 28 (wX_g28 cy ad fad _) rfl 2 (by decide) (List.mem_of_getElem? (i := 1) rfl) rfl dX5_lay_143 ?_
  refine vv_callVi (fun r17 => r17) (fun r17 => (wX cy ad fad r16)) C eX_ok h0 [] [] 0 hF (fun r17 hr17 => kX4_total l D cy ad fad r16 r17  hr17) gX5_lay_X4_total rfl rfl rfl (by decide +kernel) ⟨by decide, by decide⟩ 26 (wX_g26 cy ad fad _) rfl rfl rfl (Nat.le_of_ble_eq_true rfl) dX5_lay_146 ⟨by decide, by decide⟩ (fun r17 hqr17 hF => ?_)
  cases hF
  exact hr _ _ dX5_lay_149 rfl
set_option maxHeartbeats 4000000 in
set_option maxRecDepth 20000 in
theorem vX5_lay_105 {p : Program} {l : Launch} {e : Env} {s : State} {m : MethodId} {args : Array Value} {below : List Frame} {meth : Method} {c : Code} {D : va_G} {A : Nat → Prop} {Q : State → Prop} {cy : Nat → ClassId} {ad fad : Nat → Nat} {res : Int32 × St_} (C : vv_X p s m args meth c D (tysW cy) A 3 cX5_lay RX5 wsX5_lay) (h0 : eX A s) (hr : rt_I p l e rmX5_lay s m args below meth c D A 3 Q cX5_lay .int (wX cy ad fad res.2) res.1) : ∀ (n : Nat) (x1 : Int32) (σ : St_), fX5_lay_105  n x1 σ = some res → vv_ p l e rmX5_lay s m args below meth c D A 3 Q 0 0 (wX cy ad fad σ) [(0, .ref (ad 28)), (1, .int x1)] 105 [] := by
  intro n
  induction n with
  | zero =>
    intro x1 σ hF
    cases (show none = some res from hF)
  | succ n ih =>
    intro x1 σ hF
    replace hF : ((if (sS σ 5) ≤ x1 then fX5_lay_135  σ else (bn_ (fX1_visitorsOf x1 σ) fun r13 => (bn_ (fX4_setVisitors x1 r13 σ) fun r14 => fX5_lay_105  n (x1 + 1) r14))) : Option (Int32 × St_)) = some res := hF
    refine vv_iload_n C dX5_lay_105 1 rfl ?_
    refine vv_aload_n C dX5_lay_106 0 rfl ?_
    refine vv_get (v := .int (sS σ 5)) C (hi_X5_lay_X5) 28 (wX_g28 cy ad fad _) rfl 7 (by decide) (List.mem_of_getElem? (i := 4) rfl) rfl dX5_lay_107 ?_
    refine vv_icmp_ge (tgt := 135) C dX5_lay_110 (by decide) hF (fun c15 hF => ?_) (fun c15 hF => ?_)
    · refine vv_lv [0] rfl ?_
      exact vX5_lay_135 C h0 hr  σ  hF
    · refine vv_aload_n C dX5_lay_113 0 rfl ?_
      refine vv_get (v := .ref (ad 26)) C (hi_X5_lay_X5) 28 (wX_g28 cy ad fad _) rfl 2 (by decide) (List.mem_of_getElem? (i := 1) rfl) rfl dX5_lay_114 ?_
      refine vv_iload_n C dX5_lay_117 1 rfl ?_
      refine vv_aload_n C dX5_lay_118 0 rfl ?_
      refine vv_get (v := .ref (ad 27)) C (hi_X5_lay_X5) 28 (wX_g28 cy ad fad _) rfl 3 (by decide) (List.mem_of_getElem? (i := 2) rfl) rfl dX5_lay_119 ?_
      refine vv_iload_n C dX5_lay_122 1 rfl ?_
      refine vv_callVi (fun r13 => r13) (fun r13 => (wX cy ad fad σ)) C eX_ok h0 [.int x1] [.int x1, .ref (ad 26)] 1 hF (fun r13 hr13 => kX1_visitorsOf l D cy ad fad x1 σ r13  hr13) gX5_lay_X1_visitorsOf rfl rfl rfl (by decide +kernel) ⟨by decide, by decide⟩ 27 (wX_g27 cy ad fad _) rfl rfl rfl (Nat.le_of_ble_eq_true rfl) dX5_lay_123 ⟨by decide, by decide⟩ (fun r13 hqr13 hF => ?_)
      refine vv_callVv  (fun r14 => (wX cy ad fad r14)) C eX_ok h0 [.int x1, .int r13] [] 2 hF (fun r14 hr14 => kX4_setVisitors l D cy ad fad x1 r13 σ r14  hr14) gX5_lay_X4_setVisitors rfl rfl rfl (by decide +kernel) ⟨by decide, by decide⟩ 26 (wX_g26 cy ad fad _) rfl rfl rfl (Nat.le_of_ble_eq_true rfl) dX5_lay_126 ⟨by decide, by decide⟩ (fun r14 hqr14 hF => ?_)
      refine vv_iinc (q := 1) (v := x1 + 1) (lv' := [(1, .int (x1 + 1)), (0, .ref (ad 28))]) C dX5_lay_129 rfl rfl (by decide) rfl ?_
      refine vv_goto (tgt := 105) C dX5_lay_132 (by decide) ?_
      refine vv_lv [1, 0] rfl ?_
      exact ih (x1 + 1) r14  hF
set_option maxHeartbeats 4000000 in
set_option maxRecDepth 20000 in
theorem vX5_lay_85 {p : Program} {l : Launch} {e : Env} {s : State} {m : MethodId} {args : Array Value} {below : List Frame} {meth : Method} {c : Code} {D : va_G} {A : Nat → Prop} {Q : State → Prop} {cy : Nat → ClassId} {ad fad : Nat → Nat} {res : Int32 × St_} (C : vv_X p s m args meth c D (tysW cy) A 3 cX5_lay RX5 wsX5_lay) (h0 : eX A s) (hr : rt_I p l e rmX5_lay s m args below meth c D A 3 Q cX5_lay .int (wX cy ad fad res.2) res.1) : ∀ (σ : St_), fX5_lay_85  σ = some res → vv_ p l e rmX5_lay s m args below meth c D A 3 Q 0 0 (wX cy ad fad σ) [(0, .ref (ad 28))] 85 [] := by
  intro σ hF
  replace hF : ((bn_ (fX1_planMost σ) fun r7 => (bn_ (fX1_planLeastRow (sS r7 5) r7) fun r8 => fX5_lay_105  FU_ 0 r8)) : Option (Int32 × St_)) = some res := hF
  refine vv_aload_n C dX5_lay_85 0 rfl ?_
  refine vv_get (v := .ref (ad 27)) C (hi_X5_lay_X5) 28 (wX_g28 cy ad fad _) rfl 3 (by decide) (List.mem_of_getElem? (i := 2) rfl) rfl dX5_lay_86 ?_
  refine vv_callVv  (fun r7 => (wX cy ad fad r7)) C eX_ok h0 [] [] 0 hF (fun r7 hr7 => kX1_planMost l D cy ad fad σ r7  hr7) gX5_lay_X1_planMost rfl rfl rfl (by decide +kernel) ⟨by decide, by decide⟩ 27 (wX_g27 cy ad fad _) rfl rfl rfl (Nat.le_of_ble_eq_true rfl) dX5_lay_89 ⟨by decide, by decide⟩ (fun r7 hqr7 hF => ?_)
  refine vv_aload_n C dX5_lay_92 0 rfl ?_
  refine vv_get (v := .ref (ad 27)) C (hi_X5_lay_X5) 28 (wX_g28 cy ad fad _) rfl 3 (by decide) (List.mem_of_getElem? (i := 2) rfl) rfl dX5_lay_93 ?_
  refine vv_aload_n C dX5_lay_96 0 rfl ?_
  refine vv_get (v := .int (sS r7 5)) C (hi_X5_lay_X5) 28 (wX_g28 cy ad fad _) rfl 7 (by decide) (List.mem_of_getElem? (i := 4) rfl) rfl dX5_lay_97 ?_
  refine vv_callVv  (fun r8 => (wX cy ad fad r8)) C eX_ok h0 [.int (sS r7 5)] [] 1 hF (fun r8 hr8 => kX1_planLeastRow l D cy ad fad (sS r7 5) r7 r8  hr8) gX5_lay_X1_planLeastRow rfl rfl rfl (by decide +kernel) ⟨by decide, by decide⟩ 27 (wX_g27 cy ad fad _) rfl rfl rfl (Nat.le_of_ble_eq_true rfl) dX5_lay_100 ⟨by decide, by decide⟩ (fun r8 hqr8 hF => ?_)
  refine vv_iconst (v := 0) C dX5_lay_103 (by decide) ?_
  refine vv_istore_n (lv' := [(1, .int 0), (0, .ref (ad 28))]) C dX5_lay_104 (by decide) rfl ?_
  refine vv_lv [1, 0] rfl ?_
  exact vX5_lay_105 C h0 hr  FU_ 0 r8  hF
set_option maxHeartbeats 4000000 in
set_option maxRecDepth 20000 in
theorem vX5_lay_37 {p : Program} {l : Launch} {e : Env} {s : State} {m : MethodId} {args : Array Value} {below : List Frame} {meth : Method} {c : Code} {D : va_G} {A : Nat → Prop} {Q : State → Prop} {cy : Nat → ClassId} {ad fad : Nat → Nat} {res : Int32 × St_} (C : vv_X p s m args meth c D (tysW cy) A 3 cX5_lay RX5 wsX5_lay) (h0 : eX A s) (hr : rt_I p l e rmX5_lay s m args below meth c D A 3 Q cX5_lay .int (wX cy ad fad res.2) res.1) : ∀ (n : Nat) (x1 : Int32) (σ : St_), fX5_lay_37  n x1 σ = some res → vv_ p l e rmX5_lay s m args below meth c D A 3 Q 0 0 (wX cy ad fad σ) [(0, .ref (ad 28)), (1, .int x1)] 37 [] := by
  intro n
  induction n with
  | zero =>
    intro x1 σ hF
    cases (show none = some res from hF)
  | succ n ih =>
    intro x1 σ hF
    replace hF : ((if (sS σ 5) ≤ x1 then fX5_lay_85  σ else fX5_lay_47 (fX5_lay_37  n) FU_ x1 0 σ) : Option (Int32 × St_)) = some res := hF
    refine vv_iload_n C dX5_lay_37 1 rfl ?_
    refine vv_aload_n C dX5_lay_38 0 rfl ?_
    refine vv_get (v := .int (sS σ 5)) C (hi_X5_lay_X5) 28 (wX_g28 cy ad fad _) rfl 7 (by decide) (List.mem_of_getElem? (i := 4) rfl) rfl dX5_lay_39 ?_
    refine vv_icmp_ge (tgt := 85) C dX5_lay_42 (by decide) hF (fun c6 hF => ?_) (fun c6 hF => ?_)
    · refine vv_lv [0] rfl ?_
      exact vX5_lay_85 C h0 hr  σ  hF
    · refine vv_iconst (v := 0) C dX5_lay_45 (by decide) ?_
      refine vv_istore_n (lv' := [(2, .int 0), (0, .ref (ad 28)), (1, .int x1)]) C dX5_lay_46 (by decide) rfl ?_
      refine vv_lv [1, 2, 0] rfl ?_
      exact vX5_lay_47 C h0 hr (ih) FU_ x1 0 σ  hF
set_option maxHeartbeats 4000000 in
set_option maxRecDepth 20000 in
theorem kX5_lay (l : Launch) (D : va_G) (cy : Nat → ClassId) (ad fad : Nat → Nat) (σ : St_) (res : Int32 × St_)  (hF : fX5_lay σ = some res) : ct_I l D (tysW cy) eX yX5_lay wsX5_lay rmX5_lay [.ref (ad 28)] (wX cy ad fad σ) res.1 (wX cy ad fad res.2) := by
  refine mt_I (by decide) rfl (Nat.le_of_ble_eq_true rfl) ?_
  intro p e s m args below meth c A Q C h0 hr
  replace C : vv_X p s m args meth c D (tysW cy) A 3 cX5_lay RX5 wsX5_lay := C
  replace hF : ((bn_ (fX4_areLaid σ) fun r1 => (if r1 = 0 then (bn_ (fX2_number 0 σ) fun r2 => (bn_ (fX2_number 1 σ) fun r3 => (bn_ (fX1_begin r2 r3 σ) fun r4 => fX5_lay_37  FU_ 0 r4))) else some ((-1), σ))) : Option (Int32 × St_)) = some res := hF
  refine vv_lv [0] (lv' := [(0, .ref (ad 28))]) rfl ?_
  refine vv_aload_n C dX5_lay_0 0 rfl ?_
  refine vv_get (v := .ref (ad 26)) C (hi_X5_lay_X5) 28 (wX_g28 cy ad fad _) rfl 2 (by decide) (List.mem_of_getElem? (i := 1) rfl) rfl dX5_lay_1 ?_
  refine vv_callVi (fun r1 => r1) (fun r1 => (wX cy ad fad σ)) C eX_ok h0 [] [] 0 hF (fun r1 hr1 => kX4_areLaid l D cy ad fad σ r1  hr1) gX5_lay_X4_areLaid rfl rfl rfl (by decide +kernel) ⟨by decide, by decide⟩ 26 (wX_g26 cy ad fad _) rfl rfl rfl (Nat.le_of_ble_eq_true rfl) dX5_lay_4 ⟨by decide, by decide⟩ (fun r1 hqr1 hF => ?_)
  refine vv_if_eq (tgt := 12) C dX5_lay_7 (by decide) hF (fun c5 hF => ?_) (fun c5 hF => ?_)
  · refine vv_aload_n C dX5_lay_12 0 rfl ?_
    refine vv_get (v := .ref (ad 27)) C (hi_X5_lay_X5) 28 (wX_g28 cy ad fad _) rfl 3 (by decide) (List.mem_of_getElem? (i := 2) rfl) rfl dX5_lay_13 ?_
    refine vv_aload_n C dX5_lay_16 0 rfl ?_
    refine vv_get (v := .ref (ad 25)) C (hi_X5_lay_X5) 28 (wX_g28 cy ad fad _) rfl 1 (by decide) (List.mem_of_getElem? (i := 3) rfl) rfl dX5_lay_17 ?_
    refine vv_iconst (v := 0) C dX5_lay_20 (by decide) ?_
    refine vv_callVi (fun r2 => r2) (fun r2 => (wX cy ad fad σ)) C eX_ok h0 [.int 0] [.ref (ad 27)] 1 hF (fun r2 hr2 => kX2_number l D cy ad fad 0 σ r2  hr2) gX5_lay_X2_number rfl rfl rfl (by decide +kernel) ⟨by decide, by decide⟩ 25 (wX_g25 cy ad fad _) rfl rfl rfl (Nat.le_of_ble_eq_true rfl) dX5_lay_21 ⟨by decide, by decide⟩ (fun r2 hqr2 hF => ?_)
    refine vv_aload_n C dX5_lay_24 0 rfl ?_
    refine vv_get (v := .ref (ad 25)) C (hi_X5_lay_X5) 28 (wX_g28 cy ad fad _) rfl 1 (by decide) (List.mem_of_getElem? (i := 3) rfl) rfl dX5_lay_25 ?_
    refine vv_iconst (v := 1) C dX5_lay_28 (by decide) ?_
    refine vv_callVi (fun r3 => r3) (fun r3 => (wX cy ad fad σ)) C eX_ok h0 [.int 1] [.int r2, .ref (ad 27)] 1 hF (fun r3 hr3 => kX2_number l D cy ad fad 1 σ r3  hr3) gX5_lay_X2_number rfl rfl rfl (by decide +kernel) ⟨by decide, by decide⟩ 25 (wX_g25 cy ad fad _) rfl rfl rfl (Nat.le_of_ble_eq_true rfl) dX5_lay_29 ⟨by decide, by decide⟩ (fun r3 hqr3 hF => ?_)
    refine vv_callVv  (fun r4 => (wX cy ad fad r4)) C eX_ok h0 [.int r2, .int r3] [] 2 hF (fun r4 hr4 => kX1_begin l D cy ad fad r2 r3 σ r4  hr4) gX5_lay_X1_begin rfl rfl rfl (by decide +kernel) ⟨by decide, by decide⟩ 27 (wX_g27 cy ad fad _) rfl rfl rfl (Nat.le_of_ble_eq_true rfl) dX5_lay_32 ⟨by decide, by decide⟩ (fun r4 hqr4 hF => ?_)
    refine vv_iconst (v := 0) C dX5_lay_35 (by decide) ?_
    refine vv_istore_n (lv' := [(1, .int 0), (0, .ref (ad 28))]) C dX5_lay_36 (by decide) rfl ?_
    refine vv_lv [1, 0] rfl ?_
    exact vX5_lay_37 C h0 hr  FU_ 0 r4  hF
  · refine vv_iconst (v := (-1)) C dX5_lay_10 (by decide) ?_
    cases hF
    exact hr _ _ dX5_lay_11 rfl
/-! X5_visitor -/
abbrev rmX5_visitor : Room := { frames := 3, cells := 0, slots := 0, locals := 67 }
theorem hi_X5_visitor_X5 : ∀ w ∈ wsX50, w ∈ wsX5_visitor := fun w h => List.mem_cons_of_mem _ (List.mem_append_left _ (List.mem_append_right _ h))
def fX5_visitor (x1 : Int32) (x2 : Int32) (σ : St_) : Option Int32 := (bn_ (fX5_isFarm x1 σ) fun r1 => (if r1 = 0 then some (-1) else (bn_ (fX4_visitorAt x1 x2 σ) fun r2 => some r2)))
set_option maxHeartbeats 4000000 in
set_option maxRecDepth 20000 in
theorem kX5_visitor (l : Launch) (D : va_G) (cy : Nat → ClassId) (ad fad : Nat → Nat) (x1 : Int32) (x2 : Int32) (σ : St_) (res : Int32)  (hF : fX5_visitor x1 x2 σ = some res) : ct_I l D (tysW cy) eX yX5_visitor wsX5_visitor rmX5_visitor [.ref (ad 28), .int x1, .int x2] (wX cy ad fad σ) res (wX cy ad fad σ) := by
  refine mt_I (by decide) rfl (Nat.le_of_ble_eq_true rfl) ?_
  intro p e s m args below meth c A Q C h0 hr
  replace C : vv_X p s m args meth c D (tysW cy) A 3 cX5_visitor RX5 wsX5_visitor := C
  replace hF : ((bn_ (fX5_isFarm x1 σ) fun r1 => (if r1 = 0 then some (-1) else (bn_ (fX4_visitorAt x1 x2 σ) fun r2 => some r2))) : Option Int32) = some res := hF
  refine vv_lv [0, 1, 2] (lv' := [(0, .ref (ad 28)), (1, .int x1), (2, .int x2)]) rfl ?_
  refine vv_aload_n C dX5_visitor_0 0 rfl ?_
  refine vv_iload_n C dX5_visitor_1 1 rfl ?_
  refine vv_callVi (fun r1 => r1) (fun r1 => (wX cy ad fad σ)) C eX_ok h0 [.int x1] [] 1 hF (fun r1 hr1 => kX5_isFarm l D cy ad fad x1 σ r1  hr1) gX5_visitor_X5_isFarm rfl rfl rfl (by decide +kernel) ⟨by decide, by decide⟩ 28 (wX_g28 cy ad fad _) rfl rfl rfl (Nat.le_of_ble_eq_true rfl) dX5_visitor_2 ⟨by decide, by decide⟩ (fun r1 hqr1 hF => ?_)
  refine vv_if_ne (tgt := 10) C dX5_visitor_5 (by decide) hF (fun c3 hF => ?_) (fun c3 hF => ?_)
  · refine vv_aload_n C dX5_visitor_10 0 rfl ?_
    refine vv_get (v := .ref (ad 26)) C (hi_X5_visitor_X5) 28 (wX_g28 cy ad fad _) rfl 2 (by decide) (List.mem_of_getElem? (i := 1) rfl) rfl dX5_visitor_11 ?_
    refine vv_iload_n C dX5_visitor_14 1 rfl ?_
    refine vv_iload_n C dX5_visitor_15 2 rfl ?_
    refine vv_callVi (fun r2 => r2) (fun r2 => (wX cy ad fad σ)) C eX_ok h0 [.int x1, .int x2] [] 2 hF (fun r2 hr2 => kX4_visitorAt l D cy ad fad x1 x2 σ r2  hr2) gX5_visitor_X4_visitorAt rfl rfl rfl (by decide +kernel) ⟨by decide, by decide⟩ 26 (wX_g26 cy ad fad _) rfl rfl rfl (Nat.le_of_ble_eq_true rfl) dX5_visitor_16 ⟨by decide, by decide⟩ (fun r2 hqr2 hF => ?_)
    cases hF
    exact hr _ _ dX5_visitor_19 rfl
  · refine vv_iconst (v := (-1)) C dX5_visitor_8 (by decide) ?_
    cases hF
    exact hr _ _ dX5_visitor_9 rfl
/-! X5_tells -/
abbrev rmX5_tells : Room := { frames := 3, cells := 0, slots := 0, locals := 64 }
theorem hi_X5_tells_X5 : ∀ w ∈ wsX50, w ∈ wsX5_tells := fun w h => List.mem_cons_of_mem _ (List.mem_append_left _ (List.mem_append_right _ h))
def fX5_tells (x1 : Int32) (x2 : Int32) (x3 : Int32) (x4 : Int32) (σ : St_) : Option (Int32 × St_) := (bn_ (fX5_areFarms x1 x2 σ) fun r1 => (if r1 = 0 then some (0, σ) else (bn_ (fX5_isBelow x3 8) fun r2 => (if r2 = 0 then some (0, σ) else (bn_ (fX4_isVisitor x1 x2 σ) fun r3 => (if r3 = 0 then some (0, σ) else (bn_ (fX4_tell x1 x2 x3 x4 σ) fun r4 => some (1, r4))))))))
set_option maxHeartbeats 4000000 in
set_option maxRecDepth 20000 in
theorem kX5_tells (l : Launch) (D : va_G) (cy : Nat → ClassId) (ad fad : Nat → Nat) (x1 : Int32) (x2 : Int32) (x3 : Int32) (x4 : Int32) (σ : St_) (res : Int32 × St_)  (hF : fX5_tells x1 x2 x3 x4 σ = some res) : ct_I l D (tysW cy) eX yX5_tells wsX5_tells rmX5_tells [.ref (ad 28), .int x1, .int x2, .int x3, .int x4] (wX cy ad fad σ) res.1 (wX cy ad fad res.2) := by
  refine mt_I (by decide) rfl (Nat.le_of_ble_eq_true rfl) ?_
  intro p e s m args below meth c A Q C h0 hr
  replace C : vv_X p s m args meth c D (tysW cy) A 5 cX5_tells RX5 wsX5_tells := C
  replace hF : ((bn_ (fX5_areFarms x1 x2 σ) fun r1 => (if r1 = 0 then some (0, σ) else (bn_ (fX5_isBelow x3 8) fun r2 => (if r2 = 0 then some (0, σ) else (bn_ (fX4_isVisitor x1 x2 σ) fun r3 => (if r3 = 0 then some (0, σ) else (bn_ (fX4_tell x1 x2 x3 x4 σ) fun r4 => some (1, r4)))))))) : Option (Int32 × St_)) = some res := hF
  refine vv_lv [0, 1, 2, 3, 4] (lv' := [(0, .ref (ad 28)), (1, .int x1), (2, .int x2), (3, .int x3), (4, .int x4)]) rfl ?_
  refine vv_aload_n C dX5_tells_0 0 rfl ?_
  refine vv_iload_n C dX5_tells_1 1 rfl ?_
  refine vv_iload_n C dX5_tells_2 2 rfl ?_
  refine vv_callVi (fun r1 => r1) (fun r1 => (wX cy ad fad σ)) C eX_ok h0 [.int x1, .int x2] [] 2 hF (fun r1 hr1 => kX5_areFarms l D cy ad fad x1 x2 σ r1  hr1) gX5_tells_X5_areFarms rfl rfl rfl (by decide +kernel) ⟨by decide, by decide⟩ 28 (wX_g28 cy ad fad _) rfl rfl rfl (Nat.le_of_ble_eq_true rfl) dX5_tells_3 ⟨by decide, by decide⟩ (fun r1 hqr1 hF => ?_)
  refine vv_if_eq (tgt := 30) C dX5_tells_6 (by decide) hF (fun c7 hF => ?_) (fun c7 hF => ?_)
  · refine vv_iconst (v := 0) C dX5_tells_30 (by decide) ?_
    cases hF
    exact hr _ _ dX5_tells_31 nb_Z0
  · refine vv_iload_n C dX5_tells_9 3 rfl ?_
    refine vv_bipush (v := 8) C dX5_tells_10 (by decide) ?_
    refine vv_callSi (fun r2 => r2) (fun r2 => (wX cy ad fad σ)) C eX_ok h0 [.int x3, .int 8] [] 2 hF (fun r2 hr2 => kX5_isBelow l D (tysW cy) eX_ok (wX cy ad fad σ) x3 8 r2  hr2) gX5_tells_X5_isBelow rfl rfl rfl (by decide +kernel) ⟨by decide, by decide⟩ rfl rfl (Nat.le_of_ble_eq_true rfl) dX5_tells_12 ⟨by decide, by decide⟩ (fun r2 hqr2 hF => ?_)
    refine vv_if_eq (tgt := 30) C dX5_tells_15 (by decide) hF (fun c6 hF => ?_) (fun c6 hF => ?_)
    · refine vv_iconst (v := 0) C dX5_tells_30 (by decide) ?_
      cases hF
      exact hr _ _ dX5_tells_31 nb_Z0
    · refine vv_aload_n C dX5_tells_18 0 rfl ?_
      refine vv_get (v := .ref (ad 26)) C (hi_X5_tells_X5) 28 (wX_g28 cy ad fad _) rfl 2 (by decide) (List.mem_of_getElem? (i := 1) rfl) rfl dX5_tells_19 ?_
      refine vv_iload_n C dX5_tells_22 1 rfl ?_
      refine vv_iload_n C dX5_tells_23 2 rfl ?_
      refine vv_callVi (fun r3 => r3) (fun r3 => (wX cy ad fad σ)) C eX_ok h0 [.int x1, .int x2] [] 2 hF (fun r3 hr3 => kX4_isVisitor l D cy ad fad x1 x2 σ r3  hr3) gX5_tells_X4_isVisitor rfl rfl rfl (by decide +kernel) ⟨by decide, by decide⟩ 26 (wX_g26 cy ad fad _) rfl rfl rfl (Nat.le_of_ble_eq_true rfl) dX5_tells_24 ⟨by decide, by decide⟩ (fun r3 hqr3 hF => ?_)
      refine vv_if_ne (tgt := 32) C dX5_tells_27 (by decide) hF (fun c5 hF => ?_) (fun c5 hF => ?_)
      · refine vv_aload_n C dX5_tells_32 0 rfl ?_
        refine vv_get (v := .ref (ad 26)) C (hi_X5_tells_X5) 28 (wX_g28 cy ad fad _) rfl 2 (by decide) (List.mem_of_getElem? (i := 1) rfl) rfl dX5_tells_33 ?_
        refine vv_iload_n C dX5_tells_36 1 rfl ?_
        refine vv_iload_n C dX5_tells_37 2 rfl ?_
        refine vv_iload_n C dX5_tells_38 3 rfl ?_
        refine vv_iload C dX5_tells_39 4 rfl ?_
        refine vv_callVv  (fun r4 => (wX cy ad fad r4)) C eX_ok h0 [.int x1, .int x2, .int x3, .int x4] [] 4 hF (fun r4 hr4 => kX4_tell l D cy ad fad x1 x2 x3 x4 σ r4  hr4) gX5_tells_X4_tell rfl rfl rfl (by decide +kernel) ⟨by decide, by decide⟩ 26 (wX_g26 cy ad fad _) rfl rfl rfl (Nat.le_of_ble_eq_true rfl) dX5_tells_41 ⟨by decide, by decide⟩ (fun r4 hqr4 hF => ?_)
        refine vv_iconst (v := 1) C dX5_tells_44 (by decide) ?_
        cases hF
        exact hr _ _ dX5_tells_45 nb_Z1
      · refine vv_iconst (v := 0) C dX5_tells_30 (by decide) ?_
        cases hF
        exact hr _ _ dX5_tells_31 nb_Z0
/-! X5_breaches -/
abbrev rmX5_breaches : Room := { frames := 2, cells := 0, slots := 0, locals := 42 }
theorem hi_X5_breaches_X5 : ∀ w ∈ wsX50, w ∈ wsX5_breaches := fun w h => List.mem_cons_of_mem _ (List.mem_append_left _ (List.mem_append_right _ h))
def fX5_breaches (x1 : Int32) (σ : St_) : Option Int32 := (bn_ (fX5_isFarm x1 σ) fun r1 => (if r1 = 0 then some (-1) else (bn_ (fX4_breachesAt x1 σ) fun r2 => some r2)))
set_option maxHeartbeats 4000000 in
set_option maxRecDepth 20000 in
theorem kX5_breaches (l : Launch) (D : va_G) (cy : Nat → ClassId) (ad fad : Nat → Nat) (x1 : Int32) (σ : St_) (res : Int32)  (hF : fX5_breaches x1 σ = some res) : ct_I l D (tysW cy) eX yX5_breaches wsX5_breaches rmX5_breaches [.ref (ad 28), .int x1] (wX cy ad fad σ) res (wX cy ad fad σ) := by
  refine mt_I (by decide) rfl (Nat.le_of_ble_eq_true rfl) ?_
  intro p e s m args below meth c A Q C h0 hr
  replace C : vv_X p s m args meth c D (tysW cy) A 2 cX5_breaches RX5 wsX5_breaches := C
  replace hF : ((bn_ (fX5_isFarm x1 σ) fun r1 => (if r1 = 0 then some (-1) else (bn_ (fX4_breachesAt x1 σ) fun r2 => some r2))) : Option Int32) = some res := hF
  refine vv_lv [0, 1] (lv' := [(0, .ref (ad 28)), (1, .int x1)]) rfl ?_
  refine vv_aload_n C dX5_breaches_0 0 rfl ?_
  refine vv_iload_n C dX5_breaches_1 1 rfl ?_
  refine vv_callVi (fun r1 => r1) (fun r1 => (wX cy ad fad σ)) C eX_ok h0 [.int x1] [] 1 hF (fun r1 hr1 => kX5_isFarm l D cy ad fad x1 σ r1  hr1) gX5_breaches_X5_isFarm rfl rfl rfl (by decide +kernel) ⟨by decide, by decide⟩ 28 (wX_g28 cy ad fad _) rfl rfl rfl (Nat.le_of_ble_eq_true rfl) dX5_breaches_2 ⟨by decide, by decide⟩ (fun r1 hqr1 hF => ?_)
  refine vv_if_ne (tgt := 10) C dX5_breaches_5 (by decide) hF (fun c3 hF => ?_) (fun c3 hF => ?_)
  · refine vv_aload_n C dX5_breaches_10 0 rfl ?_
    refine vv_get (v := .ref (ad 26)) C (hi_X5_breaches_X5) 28 (wX_g28 cy ad fad _) rfl 2 (by decide) (List.mem_of_getElem? (i := 1) rfl) rfl dX5_breaches_11 ?_
    refine vv_iload_n C dX5_breaches_14 1 rfl ?_
    refine vv_callVi (fun r2 => r2) (fun r2 => (wX cy ad fad σ)) C eX_ok h0 [.int x1] [] 1 hF (fun r2 hr2 => kX4_breachesAt l D cy ad fad x1 σ r2  hr2) gX5_breaches_X4_breachesAt rfl rfl rfl (by decide +kernel) ⟨by decide, by decide⟩ 26 (wX_g26 cy ad fad _) rfl rfl rfl (Nat.le_of_ble_eq_true rfl) dX5_breaches_15 ⟨by decide, by decide⟩ (fun r2 hqr2 hF => ?_)
    cases hF
    exact hr _ _ dX5_breaches_18 rfl
  · refine vv_iconst (v := (-1)) C dX5_breaches_8 (by decide) ?_
    cases hF
    exact hr _ _ dX5_breaches_9 rfl
/-! X5_weighs -/
abbrev rmX5_weighs : Room := { frames := 2, cells := 0, slots := 0, locals := 44 }
theorem hi_X5_weighs_X5 : ∀ w ∈ wsX50, w ∈ wsX5_weighs := fun w h => List.mem_cons_of_mem _ (List.mem_append_left _ (List.mem_append_right _ h))
def fX5_weighs (x1 : Int32) (σ : St_) : Option Int32 := (bn_ (fX5_isFarm x1 σ) fun r1 => (if r1 = 0 then some (-1) else (bn_ (fX4_breachesAt x1 σ) fun r2 => (bn_ (fX5_weightOf r2 σ) fun r3 => some r3))))
set_option maxHeartbeats 4000000 in
set_option maxRecDepth 20000 in
theorem kX5_weighs (l : Launch) (D : va_G) (cy : Nat → ClassId) (ad fad : Nat → Nat) (x1 : Int32) (σ : St_) (res : Int32)  (hF : fX5_weighs x1 σ = some res) : ct_I l D (tysW cy) eX yX5_weighs wsX5_weighs rmX5_weighs [.ref (ad 28), .int x1] (wX cy ad fad σ) res (wX cy ad fad σ) := by
  refine mt_I (by decide) rfl (Nat.le_of_ble_eq_true rfl) ?_
  intro p e s m args below meth c A Q C h0 hr
  replace C : vv_X p s m args meth c D (tysW cy) A 2 cX5_weighs RX5 wsX5_weighs := C
  replace hF : ((bn_ (fX5_isFarm x1 σ) fun r1 => (if r1 = 0 then some (-1) else (bn_ (fX4_breachesAt x1 σ) fun r2 => (bn_ (fX5_weightOf r2 σ) fun r3 => some r3)))) : Option Int32) = some res := hF
  refine vv_lv [0, 1] (lv' := [(0, .ref (ad 28)), (1, .int x1)]) rfl ?_
  refine vv_aload_n C dX5_weighs_0 0 rfl ?_
  refine vv_iload_n C dX5_weighs_1 1 rfl ?_
  refine vv_callVi (fun r1 => r1) (fun r1 => (wX cy ad fad σ)) C eX_ok h0 [.int x1] [] 1 hF (fun r1 hr1 => kX5_isFarm l D cy ad fad x1 σ r1  hr1) gX5_weighs_X5_isFarm rfl rfl rfl (by decide +kernel) ⟨by decide, by decide⟩ 28 (wX_g28 cy ad fad _) rfl rfl rfl (Nat.le_of_ble_eq_true rfl) dX5_weighs_2 ⟨by decide, by decide⟩ (fun r1 hqr1 hF => ?_)
  refine vv_if_ne (tgt := 10) C dX5_weighs_5 (by decide) hF (fun c4 hF => ?_) (fun c4 hF => ?_)
  · refine vv_aload_n C dX5_weighs_10 0 rfl ?_
    refine vv_aload_n C dX5_weighs_11 0 rfl ?_
    refine vv_get (v := .ref (ad 26)) C (hi_X5_weighs_X5) 28 (wX_g28 cy ad fad _) rfl 2 (by decide) (List.mem_of_getElem? (i := 1) rfl) rfl dX5_weighs_12 ?_
    refine vv_iload_n C dX5_weighs_15 1 rfl ?_
    refine vv_callVi (fun r2 => r2) (fun r2 => (wX cy ad fad σ)) C eX_ok h0 [.int x1] [.ref (ad 28)] 1 hF (fun r2 hr2 => kX4_breachesAt l D cy ad fad x1 σ r2  hr2) gX5_weighs_X4_breachesAt rfl rfl rfl (by decide +kernel) ⟨by decide, by decide⟩ 26 (wX_g26 cy ad fad _) rfl rfl rfl (Nat.le_of_ble_eq_true rfl) dX5_weighs_16 ⟨by decide, by decide⟩ (fun r2 hqr2 hF => ?_)
    refine vv_callVi (fun r3 => r3) (fun r3 => (wX cy ad fad σ)) C eX_ok h0 [.int r2] [] 1 hF (fun r3 hr3 => kX5_weightOf l D cy ad fad r2 σ r3  hr3) gX5_weighs_X5_weightOf rfl rfl rfl (by decide +kernel) ⟨by decide, by decide⟩ 28 (wX_g28 cy ad fad _) rfl rfl rfl (Nat.le_of_ble_eq_true rfl) dX5_weighs_19 ⟨by decide, by decide⟩ (fun r3 hqr3 hF => ?_)
    cases hF
    exact hr _ _ dX5_weighs_22 rfl
  · refine vv_iconst (v := (-1)) C dX5_weighs_8 (by decide) ?_
    cases hF
    exact hr _ _ dX5_weighs_9 rfl
/-! X5_vouches -/
abbrev rmX5_vouches : Room := { frames := 3, cells := 0, slots := 0, locals := 64 }
theorem hi_X5_vouches_X5 : ∀ w ∈ wsX50, w ∈ wsX5_vouches := fun w h => List.mem_cons_of_mem _ (List.mem_append_left _ (List.mem_append_right _ h))
def fX5_vouches (x1 : Int32) (x2 : Int32) (σ : St_) : Option Int32 := (bn_ (fX5_areFarms x1 x2 σ) fun r1 => (if r1 = 0 then some (-1) else (bn_ (fX4_vouchersFor x2 σ) fun r2 => (bn_ (fX5_hasBit r2 x1) fun r3 => (bn_ (fX5_oneIf r3) fun r4 => some r4)))))
set_option maxHeartbeats 4000000 in
set_option maxRecDepth 20000 in
theorem kX5_vouches (l : Launch) (D : va_G) (cy : Nat → ClassId) (ad fad : Nat → Nat) (x1 : Int32) (x2 : Int32) (σ : St_) (res : Int32)  (hF : fX5_vouches x1 x2 σ = some res) : ct_I l D (tysW cy) eX yX5_vouches wsX5_vouches rmX5_vouches [.ref (ad 28), .int x1, .int x2] (wX cy ad fad σ) res (wX cy ad fad σ) := by
  refine mt_I (by decide) rfl (Nat.le_of_ble_eq_true rfl) ?_
  intro p e s m args below meth c A Q C h0 hr
  replace C : vv_X p s m args meth c D (tysW cy) A 3 cX5_vouches RX5 wsX5_vouches := C
  replace hF : ((bn_ (fX5_areFarms x1 x2 σ) fun r1 => (if r1 = 0 then some (-1) else (bn_ (fX4_vouchersFor x2 σ) fun r2 => (bn_ (fX5_hasBit r2 x1) fun r3 => (bn_ (fX5_oneIf r3) fun r4 => some r4))))) : Option Int32) = some res := hF
  refine vv_lv [0, 1, 2] (lv' := [(0, .ref (ad 28)), (1, .int x1), (2, .int x2)]) rfl ?_
  refine vv_aload_n C dX5_vouches_0 0 rfl ?_
  refine vv_iload_n C dX5_vouches_1 1 rfl ?_
  refine vv_iload_n C dX5_vouches_2 2 rfl ?_
  refine vv_callVi (fun r1 => r1) (fun r1 => (wX cy ad fad σ)) C eX_ok h0 [.int x1, .int x2] [] 2 hF (fun r1 hr1 => kX5_areFarms l D cy ad fad x1 x2 σ r1  hr1) gX5_vouches_X5_areFarms rfl rfl rfl (by decide +kernel) ⟨by decide, by decide⟩ 28 (wX_g28 cy ad fad _) rfl rfl rfl (Nat.le_of_ble_eq_true rfl) dX5_vouches_3 ⟨by decide, by decide⟩ (fun r1 hqr1 hF => ?_)
  refine vv_if_ne (tgt := 11) C dX5_vouches_6 (by decide) hF (fun c5 hF => ?_) (fun c5 hF => ?_)
  · refine vv_aload_n C dX5_vouches_11 0 rfl ?_
    refine vv_get (v := .ref (ad 26)) C (hi_X5_vouches_X5) 28 (wX_g28 cy ad fad _) rfl 2 (by decide) (List.mem_of_getElem? (i := 1) rfl) rfl dX5_vouches_12 ?_
    refine vv_iload_n C dX5_vouches_15 2 rfl ?_
    refine vv_callVi (fun r2 => r2) (fun r2 => (wX cy ad fad σ)) C eX_ok h0 [.int x2] [] 1 hF (fun r2 hr2 => kX4_vouchersFor l D cy ad fad x2 σ r2  hr2) gX5_vouches_X4_vouchersFor rfl rfl rfl (by decide +kernel) ⟨by decide, by decide⟩ 26 (wX_g26 cy ad fad _) rfl rfl rfl (Nat.le_of_ble_eq_true rfl) dX5_vouches_16 ⟨by decide, by decide⟩ (fun r2 hqr2 hF => ?_)
    refine vv_iload_n C dX5_vouches_19 1 rfl ?_
    refine vv_callSi (fun r3 => r3) (fun r3 => (wX cy ad fad σ)) C eX_ok h0 [.int r2, .int x1] [] 2 hF (fun r3 hr3 => kX5_hasBit l D (tysW cy) eX_ok (wX cy ad fad σ) r2 x1 r3  hr3) gX5_vouches_X5_hasBit rfl rfl rfl (by decide +kernel) ⟨by decide, by decide⟩ rfl rfl (Nat.le_of_ble_eq_true rfl) dX5_vouches_20 ⟨by decide, by decide⟩ (fun r3 hqr3 hF => ?_)
    refine vv_callSi (fun r4 => r4) (fun r4 => (wX cy ad fad σ)) C eX_ok h0 [.int r3] [] 1 hF (fun r4 hr4 => kX5_oneIf l D (tysW cy) eX_ok (wX cy ad fad σ) r3 r4  hr4) gX5_vouches_X5_oneIf rfl rfl rfl (by decide +kernel) ⟨by decide, by decide⟩ rfl rfl (Nat.le_of_ble_eq_true rfl) dX5_vouches_23 ⟨by decide, by decide⟩ (fun r4 hqr4 hF => ?_)
    cases hF
    exact hr _ _ dX5_vouches_26 rfl
  · refine vv_iconst (v := (-1)) C dX5_vouches_9 (by decide) ?_
    cases hF
    exact hr _ _ dX5_vouches_10 rfl
/-! X5_trust -/
abbrev rmX5_trust : Room := { frames := 3, cells := 0, slots := 0, locals := 64 }
theorem hi_X5_trust_X5 : ∀ w ∈ wsX50, w ∈ wsX5_trust := fun w h => List.mem_cons_of_mem _ (List.mem_append_left _ (List.mem_append_right _ h))
def fX5_trust_18 (σ : St_) : Nat → Int32 → Int32 → Int32 → Option Int32
  | 0, _, _, _ => none
  | n + 1, x2, x3, x4 => (if 10 ≤ x4 then some (-1) else (bn_ (fX5_hasBit x3 x2) fun r3 => (if r3 = 0 then (bn_ (fX4_vouchedForBy x3 σ) fun r4 => fX5_trust_18 σ  n x2 (x3 ||| r4) (x4 + 1)) else some x4)))
def fX5_trust (x1 : Int32) (x2 : Int32) (σ : St_) : Option Int32 := (bn_ (fX5_areFarms x1 x2 σ) fun r1 => (if r1 = 0 then some (-1) else fX5_trust_18 σ  FU_ x2 (1 <<< (x1 &&& 31)) 0))
set_option maxHeartbeats 4000000 in
set_option maxRecDepth 20000 in
theorem vX5_trust_18 {p : Program} {l : Launch} {e : Env} {s : State} {m : MethodId} {args : Array Value} {below : List Frame} {meth : Method} {c : Code} {D : va_G} {A : Nat → Prop} {Q : State → Prop} {cy : Nat → ClassId} {ad fad : Nat → Nat} {σ : St_} {res : Int32} (C : vv_X p s m args meth c D (tysW cy) A 5 cX5_trust RX5 wsX5_trust) (h0 : eX A s) (hr : rt_I p l e rmX5_trust s m args below meth c D A 5 Q cX5_trust .int (wX cy ad fad σ) res) : ∀ (n : Nat) (x2 : Int32) (x3 : Int32) (x4 : Int32), fX5_trust_18 σ  n x2 x3 x4 = some res → vv_ p l e rmX5_trust s m args below meth c D A 5 Q 0 0 (wX cy ad fad σ) [(0, .ref (ad 28)), (2, .int x2), (3, .int x3), (4, .int x4)] 18 [] := by
  intro n
  induction n with
  | zero =>
    intro x2 x3 x4 hF
    cases (show none = some res from hF)
  | succ n ih =>
    intro x2 x3 x4 hF
    replace hF : ((if 10 ≤ x4 then some (-1) else (bn_ (fX5_hasBit x3 x2) fun r3 => (if r3 = 0 then (bn_ (fX4_vouchedForBy x3 σ) fun r4 => fX5_trust_18 σ  n x2 (x3 ||| r4) (x4 + 1)) else some x4))) : Option Int32) = some res := hF
    refine vv_iload C dX5_trust_18 3 rfl ?_
    refine vv_bipush (v := 10) C dX5_trust_20 (by decide) ?_
    refine vv_icmp_ge (tgt := 53) C dX5_trust_22 (by decide) hF (fun c6 hF => ?_) (fun c6 hF => ?_)
    · refine vv_iconst (v := (-1)) C dX5_trust_53 (by decide) ?_
      cases hF
      exact hr _ _ dX5_trust_54 rfl
    · refine vv_iload_n C dX5_trust_25 2 rfl ?_
      refine vv_iload_n C dX5_trust_26 1 rfl ?_
      refine vv_callSi (fun r3 => r3) (fun r3 => (wX cy ad fad σ)) C eX_ok h0 [.int x3, .int x2] [] 2 hF (fun r3 hr3 => kX5_hasBit l D (tysW cy) eX_ok (wX cy ad fad σ) x3 x2 r3  hr3) gX5_trust_X5_hasBit rfl rfl rfl (by decide +kernel) ⟨by decide, by decide⟩ rfl rfl (Nat.le_of_ble_eq_true rfl) dX5_trust_27 ⟨by decide, by decide⟩ (fun r3 hqr3 hF => ?_)
      refine vv_if_eq (tgt := 36) C dX5_trust_30 (by decide) hF (fun c5 hF => ?_) (fun c5 hF => ?_)
      · refine vv_iload_n C dX5_trust_36 2 rfl ?_
        refine vv_aload_n C dX5_trust_37 0 rfl ?_
        refine vv_get (v := .ref (ad 26)) C (hi_X5_trust_X5) 28 (wX_g28 cy ad fad _) rfl 2 (by decide) (List.mem_of_getElem? (i := 1) rfl) rfl dX5_trust_38 ?_
        refine vv_iload_n C dX5_trust_41 2 rfl ?_
        refine vv_callVi (fun r4 => r4) (fun r4 => (wX cy ad fad σ)) C eX_ok h0 [.int x3] [.int x3] 1 hF (fun r4 hr4 => kX4_vouchedForBy l D cy ad fad x3 σ r4  hr4) gX5_trust_X4_vouchedForBy rfl rfl rfl (by decide +kernel) ⟨by decide, by decide⟩ 26 (wX_g26 cy ad fad _) rfl rfl rfl (Nat.le_of_ble_eq_true rfl) dX5_trust_42 ⟨by decide, by decide⟩ (fun r4 hqr4 hF => ?_)
        refine vv_ior C dX5_trust_45 ?_
        refine vv_istore_n (lv' := [(3, .int (x3 ||| r4)), (0, .ref (ad 28)), (2, .int x2), (4, .int x4)]) C dX5_trust_46 (by decide) rfl ?_
        refine vv_iinc (q := 3) (v := x4 + 1) (lv' := [(4, .int (x4 + 1)), (3, .int (x3 ||| r4)), (0, .ref (ad 28)), (2, .int x2)]) C dX5_trust_47 rfl rfl (by decide) rfl ?_
        refine vv_goto (tgt := 18) C dX5_trust_50 (by decide) ?_
        refine vv_lv [2, 3, 1, 0] rfl ?_
        exact ih x2 (x3 ||| r4) (x4 + 1)  hF
      · refine vv_iload C dX5_trust_33 3 rfl ?_
        cases hF
        exact hr _ _ dX5_trust_35 rfl
set_option maxHeartbeats 4000000 in
set_option maxRecDepth 20000 in
theorem kX5_trust (l : Launch) (D : va_G) (cy : Nat → ClassId) (ad fad : Nat → Nat) (x1 : Int32) (x2 : Int32) (σ : St_) (res : Int32)  (hF : fX5_trust x1 x2 σ = some res) : ct_I l D (tysW cy) eX yX5_trust wsX5_trust rmX5_trust [.ref (ad 28), .int x1, .int x2] (wX cy ad fad σ) res (wX cy ad fad σ) := by
  refine mt_I (by decide) rfl (Nat.le_of_ble_eq_true rfl) ?_
  intro p e s m args below meth c A Q C h0 hr
  replace C : vv_X p s m args meth c D (tysW cy) A 5 cX5_trust RX5 wsX5_trust := C
  replace hF : ((bn_ (fX5_areFarms x1 x2 σ) fun r1 => (if r1 = 0 then some (-1) else fX5_trust_18 σ  FU_ x2 (1 <<< (x1 &&& 31)) 0)) : Option Int32) = some res := hF
  refine vv_lv [0, 1, 2] (lv' := [(0, .ref (ad 28)), (1, .int x1), (2, .int x2)]) rfl ?_
  refine vv_aload_n C dX5_trust_0 0 rfl ?_
  refine vv_iload_n C dX5_trust_1 1 rfl ?_
  refine vv_iload_n C dX5_trust_2 2 rfl ?_
  refine vv_callVi (fun r1 => r1) (fun r1 => (wX cy ad fad σ)) C eX_ok h0 [.int x1, .int x2] [] 2 hF (fun r1 hr1 => kX5_areFarms l D cy ad fad x1 x2 σ r1  hr1) gX5_trust_X5_areFarms rfl rfl rfl (by decide +kernel) ⟨by decide, by decide⟩ 28 (wX_g28 cy ad fad _) rfl rfl rfl (Nat.le_of_ble_eq_true rfl) dX5_trust_3 ⟨by decide, by decide⟩ (fun r1 hqr1 hF => ?_)
  refine vv_if_ne (tgt := 11) C dX5_trust_6 (by decide) hF (fun c2 hF => ?_) (fun c2 hF => ?_)
  · refine vv_iconst (v := 1) C dX5_trust_11 (by decide) ?_
    refine vv_iload_n C dX5_trust_12 1 rfl ?_
    refine vv_ishl C dX5_trust_13 ?_
    refine vv_istore_n (lv' := [(3, .int (1 <<< (x1 &&& 31))), (0, .ref (ad 28)), (1, .int x1), (2, .int x2)]) C dX5_trust_14 (by decide) rfl ?_
    refine vv_iconst (v := 0) C dX5_trust_15 (by decide) ?_
    refine vv_istore (lv' := [(4, .int 0), (3, .int (1 <<< (x1 &&& 31))), (0, .ref (ad 28)), (1, .int x1), (2, .int x2)]) C dX5_trust_16 (by decide) rfl ?_
    refine vv_lv [2, 4, 1, 0] rfl ?_
    exact vX5_trust_18 C h0 hr  FU_ x2 (1 <<< (x1 &&& 31)) 0  hF
  · refine vv_iconst (v := (-1)) C dX5_trust_9 (by decide) ?_
    cases hF
    exact hr _ _ dX5_trust_10 rfl
/-! X5_sell -/
abbrev rmX5_sell : Room := { frames := 3, cells := 0, slots := 0, locals := 63 }
theorem hi_X5_sell_X0 : ∀ w ∈ wsX00, w ∈ wsX5_sell := fun w h => List.mem_cons_of_mem _ (List.mem_append_left _ (List.mem_append_right _ h))
def fX5_sell (x1 : Int32) (x2 : Int32) (σ : St_) : Option (Int32 × St_) := (bn_ (fX5_farmAt x1 σ) fun r1 => (match r1 with | none => some (0, σ) | some i2 => (if x2 < 1 then some (0, σ) else (if 10000 < x2 then some (0, σ) else (if (sF σ i2 2) = 0 then some (0, σ) else (bn_ (fX0_sellBaskets i2 x2 σ) fun r3 => some (1, r3)))))))
set_option maxHeartbeats 4000000 in
set_option maxRecDepth 20000 in
theorem kX5_sell (l : Launch) (D : va_G) (cy : Nat → ClassId) (ad fad : Nat → Nat) (x1 : Int32) (x2 : Int32) (σ : St_) (res : Int32 × St_)  (hF : fX5_sell x1 x2 σ = some res) : ct_I l D (tysW cy) eX yX5_sell wsX5_sell rmX5_sell [.ref (ad 28), .int x1, .int x2] (wX cy ad fad σ) res.1 (wX cy ad fad res.2) := by
  refine mt_I (by decide) rfl (Nat.le_of_ble_eq_true rfl) ?_
  intro p e s m args below meth c A Q C h0 hr
  replace C : vv_X p s m args meth c D (tysW cy) A 4 cX5_sell RX5 wsX5_sell := C
  replace hF : ((bn_ (fX5_farmAt x1 σ) fun r1 => (match r1 with | none => some (0, σ) | some i2 => (if x2 < 1 then some (0, σ) else (if 10000 < x2 then some (0, σ) else (if (sF σ i2 2) = 0 then some (0, σ) else (bn_ (fX0_sellBaskets i2 x2 σ) fun r3 => some (1, r3))))))) : Option (Int32 × St_)) = some res := hF
  refine vv_lv [0, 1, 2] (lv' := [(0, .ref (ad 28)), (1, .int x1), (2, .int x2)]) rfl ?_
  refine vv_aload_n C dX5_sell_0 0 rfl ?_
  refine vv_iload_n C dX5_sell_1 1 rfl ?_
  refine vv_callVq (fun r1 => Option.map fad r1) (fun r1 => (wX cy ad fad σ)) C eX_ok h0 [.int x1] [] 1 hF (fun r1 hr1 => kX5_farmAt l D cy ad fad x1 σ r1  hr1) gX5_sell_X5_farmAt rfl rfl rfl (by decide +kernel) ⟨by decide, by decide⟩ 28 (wX_g28 cy ad fad _) rfl rfl rfl (Nat.le_of_ble_eq_true rfl) dX5_sell_2 ⟨by decide, by decide⟩ (fun r1 hqr1 hF => ?_)
  have hqr1 := kX5_farmAt_lt hqr1
  cases r1 with
  | none =>
    try dsimp only at hF
    refine vv_astore_nN (lv' := [(3, .null), (0, .ref (ad 28)), (1, .int x1), (2, .int x2)]) C dX5_sell_5 (by decide) rfl ?_
    refine vv_aload_nN C dX5_sell_6 0 rfl ?_
    refine vv_ifnullN (tgt := 29) C dX5_sell_7 (by decide) ?_
    refine vv_iconst (v := 0) C dX5_sell_29 (by decide) ?_
    cases hF
    exact hr _ _ dX5_sell_30 nb_Z0
  | some i2 =>
    try dsimp only at hF
    have hi2 := hqr1 i2 rfl
    refine vv_astore_n (lv' := [(3, .ref (fad i2)), (0, .ref (ad 28)), (1, .int x1), (2, .int x2)]) C dX5_sell_5 (by decide) rfl ?_
    refine vv_aload_n C dX5_sell_6 0 rfl ?_
    refine vv_ifnull C dX5_sell_7 ?_
    refine vv_iload_n C dX5_sell_10 3 rfl ?_
    refine vv_iconst (v := 1) C dX5_sell_11 (by decide) ?_
    refine vv_icmp_lt (tgt := 29) C dX5_sell_12 (by decide) hF (fun c6 hF => ?_) (fun c6 hF => ?_)
    · refine vv_iconst (v := 0) C dX5_sell_29 (by decide) ?_
      cases hF
      exact hr _ _ dX5_sell_30 nb_Z0
    · refine vv_iload_n C dX5_sell_15 3 rfl ?_
      refine vv_sipush (v := 10000) C dX5_sell_16 (by decide) ?_
      refine vv_icmp_gt (tgt := 29) C dX5_sell_19 (by decide) hF (fun c5 hF => ?_) (fun c5 hF => ?_)
      · refine vv_iconst (v := 0) C dX5_sell_29 (by decide) ?_
        cases hF
        exact hr _ _ dX5_sell_30 nb_Z0
      · refine vv_aload_n C dX5_sell_22 0 rfl ?_
        refine vv_get (v := .int (sF σ i2 2)) C (hi_X5_sell_X0) (29 + i2) (wX_farm cy ad fad σ hi2) rfl 2 (by decide) (List.mem_of_getElem? (i := 1) rfl) rfl dX5_sell_23 ?_
        refine vv_if_ne (tgt := 31) C dX5_sell_26 (by decide) hF (fun c4 hF => ?_) (fun c4 hF => ?_)
        · refine vv_aload_n C dX5_sell_31 0 rfl ?_
          refine vv_iload_n C dX5_sell_32 3 rfl ?_
          refine vv_callVv  (fun r3 => (wX cy ad fad r3)) C eX_ok h0 [.int x2] [] 1 hF (fun r3 hr3 => kX0_sellBaskets l D cy ad fad i2 x2 σ r3 hi2 hr3) gX5_sell_X0_sellBaskets rfl rfl rfl (by decide +kernel) ⟨by decide, by decide⟩ (29 + i2) (wX_farm cy ad fad σ hi2) rfl rfl rfl (Nat.le_of_ble_eq_true rfl) dX5_sell_33 ⟨by decide, by decide⟩ (fun r3 hqr3 hF => ?_)
          refine vv_iconst (v := 1) C dX5_sell_36 (by decide) ?_
          cases hF
          exact hr _ _ dX5_sell_37 nb_Z1
        · refine vv_iconst (v := 0) C dX5_sell_29 (by decide) ?_
          cases hF
          exact hr _ _ dX5_sell_30 nb_Z0
/-! X5_year -/
abbrev rmX5_year : Room := { frames := 4, cells := 0, slots := 0, locals := 87 }
theorem hi_X5_year_X5 : ∀ w ∈ wsX50, w ∈ wsX5_year := fun w h => List.mem_cons_of_mem _ (List.mem_append_left _ (List.mem_append_left _ (List.mem_append_left _ (List.mem_append_right _ h))))
def fX5_year_85 (k24 : Int32 → St_ → Option (Int32 × St_)) (x1 : Int32) (σ : St_) : Option (Int32 × St_) := k24 (x1 + 1) σ
def fX5_year_61 (k24 : Int32 → St_ → Option (Int32 × St_)) (x1 : Int32) (i2 : Nat) (x3 : Int32) (t0 : Int32) (u1 : Nat) (σ : St_) : Option (Int32 × St_) := (bn_ (fX0_countDoubtful u1 t0 σ) fun r10 => (bn_ (fX5_weightOf x3 r10) fun r11 => (bn_ (fX4_visitorCount x1 r10) fun r12 => (bn_ (fX0_goOn i2 r11 r12 r10) fun r13 => fX5_year_85 (k24) x1 r13))))
def fX5_year_91 (σ : St_) : Option (Int32 × St_) := (bn_ (fX4_endYear σ) fun r9 => some ((sS (uS r9 6 ((sS r9 6) + 1)) 6), uS r9 6 ((sS r9 6) + 1)))
def fX5_year_24 : Nat → Int32 → St_ → Option (Int32 × St_)
  | 0, _, _ => none
  | n + 1, x1, σ => (if (sS σ 5) ≤ x1 then fX5_year_91  σ else (bn_ (fX5_farmAt x1 σ) fun r4 => (match r4 with | none => fX5_year_85 (fX5_year_24  n) x1 σ | some i5 => (bn_ (fX4_breachesAt x1 σ) fun r6 => (if r6 = 0 then fX5_year_61 (fX5_year_24  n) x1 i5 r6 0 i5 σ else fX5_year_61 (fX5_year_24  n) x1 i5 r6 1 i5 σ)))))
def fX5_year (σ : St_) : Option (Int32 × St_) := (bn_ (fX4_areLaid σ) fun r1 => (if r1 = 0 then some ((-1), σ) else (if (sS σ 6) < 500 then fX5_year_24  FU_ 0 σ else some ((-1), σ))))
set_option maxHeartbeats 4000000 in
set_option maxRecDepth 20000 in
theorem vX5_year_85 {p : Program} {l : Launch} {e : Env} {s : State} {m : MethodId} {args : Array Value} {below : List Frame} {meth : Method} {c : Code} {D : va_G} {A : Nat → Prop} {Q : State → Prop} {cy : Nat → ClassId} {ad fad : Nat → Nat} {k24 : Int32 → St_ → Option (Int32 × St_)} {res : Int32 × St_} (C : vv_X p s m args meth c D (tysW cy) A 4 cX5_year RX5 wsX5_year) (h0 : eX A s) (hr : rt_I p l e rmX5_year s m args below meth c D A 4 Q cX5_year .int (wX cy ad fad res.2) res.1) (hk24 : ∀ (x1 : Int32) (σ : St_), k24 x1 σ = some res → vv_ p l e rmX5_year s m args below meth c D A 4 Q 0 0 (wX cy ad fad σ) [(0, .ref (ad 28)), (1, .int x1)] 24 []) : ∀ (x1 : Int32) (σ : St_), fX5_year_85 k24 x1 σ = some res → vv_ p l e rmX5_year s m args below meth c D A 4 Q 0 0 (wX cy ad fad σ) [(0, .ref (ad 28)), (1, .int x1)] 85 [] := by
  intro x1 σ hF
  replace hF : (k24 (x1 + 1) σ : Option (Int32 × St_)) = some res := hF
  refine vv_iinc (q := 1) (v := x1 + 1) (lv' := [(1, .int (x1 + 1)), (0, .ref (ad 28))]) C dX5_year_85 rfl rfl (by decide) rfl ?_
  refine vv_goto (tgt := 24) C dX5_year_88 (by decide) ?_
  refine vv_lv [1, 0] rfl ?_
  exact hk24 (x1 + 1) σ  hF
set_option maxHeartbeats 4000000 in
set_option maxRecDepth 20000 in
theorem vX5_year_61 {p : Program} {l : Launch} {e : Env} {s : State} {m : MethodId} {args : Array Value} {below : List Frame} {meth : Method} {c : Code} {D : va_G} {A : Nat → Prop} {Q : State → Prop} {cy : Nat → ClassId} {ad fad : Nat → Nat} {k24 : Int32 → St_ → Option (Int32 × St_)} {res : Int32 × St_} (C : vv_X p s m args meth c D (tysW cy) A 4 cX5_year RX5 wsX5_year) (h0 : eX A s) (hr : rt_I p l e rmX5_year s m args below meth c D A 4 Q cX5_year .int (wX cy ad fad res.2) res.1) (hk24 : ∀ (x1 : Int32) (σ : St_), k24 x1 σ = some res → vv_ p l e rmX5_year s m args below meth c D A 4 Q 0 0 (wX cy ad fad σ) [(0, .ref (ad 28)), (1, .int x1)] 24 []) : ∀ (x1 : Int32) (i2 : Nat) (x3 : Int32) (t0 : Int32) (u1 : Nat) (σ : St_), (i2 < sN σ) → (u1 < sN σ) → fX5_year_61 k24 x1 i2 x3 t0 u1 σ = some res → vv_ p l e rmX5_year s m args below meth c D A 4 Q 0 0 (wX cy ad fad σ) [(0, .ref (ad 28)), (1, .int x1), (2, .ref (fad i2)), (3, .int x3)] 61 [.int t0, .ref (fad u1)] := by
  intro x1 i2 x3 t0 u1 σ hfl2 hfs1 hF
  replace hF : ((bn_ (fX0_countDoubtful u1 t0 σ) fun r10 => (bn_ (fX5_weightOf x3 r10) fun r11 => (bn_ (fX4_visitorCount x1 r10) fun r12 => (bn_ (fX0_goOn i2 r11 r12 r10) fun r13 => fX5_year_85 (k24) x1 r13)))) : Option (Int32 × St_)) = some res := hF
  refine vv_callVv  (fun r10 => (wX cy ad fad r10)) C eX_ok h0 [.int t0] [] 1 hF (fun r10 hr10 => kX0_countDoubtful l D cy ad fad u1 t0 σ r10 hfs1 hr10) gX5_year_X0_countDoubtful rfl rfl rfl (by decide +kernel) ⟨by decide, by decide⟩ (29 + u1) (wX_farm cy ad fad σ hfs1) rfl rfl rfl (Nat.le_of_ble_eq_true rfl) dX5_year_61 ⟨by decide, by decide⟩ (fun r10 hqr10 hF => ?_)
  have hfl2_r10 : i2 < sN r10 := by rw [nX0_countDoubtful hqr10]; exact hfl2
  refine vv_aload_n C dX5_year_64 2 rfl ?_
  refine vv_aload_n C dX5_year_65 0 rfl ?_
  refine vv_iload_n C dX5_year_66 3 rfl ?_
  refine vv_callVi (fun r11 => r11) (fun r11 => (wX cy ad fad r10)) C eX_ok h0 [.int x3] [.ref (fad i2)] 1 hF (fun r11 hr11 => kX5_weightOf l D cy ad fad x3 r10 r11  hr11) gX5_year_X5_weightOf rfl rfl rfl (by decide +kernel) ⟨by decide, by decide⟩ 28 (wX_g28 cy ad fad _) rfl rfl rfl (Nat.le_of_ble_eq_true rfl) dX5_year_67 ⟨by decide, by decide⟩ (fun r11 hqr11 hF => ?_)
  refine vv_aload_n C dX5_year_70 0 rfl ?_
  refine vv_get (v := .ref (ad 26)) C (hi_X5_year_X5) 28 (wX_g28 cy ad fad _) rfl 2 (by decide) (List.mem_of_getElem? (i := 1) rfl) rfl dX5_year_71 ?_
  refine vv_iload_n C dX5_year_74 1 rfl ?_
  refine vv_callVi (fun r12 => r12) (fun r12 => (wX cy ad fad r10)) C eX_ok h0 [.int x1] [.int r11, .ref (fad i2)] 1 hF (fun r12 hr12 => kX4_visitorCount l D cy ad fad x1 r10 r12  hr12) gX5_year_X4_visitorCount rfl rfl rfl (by decide +kernel) ⟨by decide, by decide⟩ 26 (wX_g26 cy ad fad _) rfl rfl rfl (Nat.le_of_ble_eq_true rfl) dX5_year_75 ⟨by decide, by decide⟩ (fun r12 hqr12 hF => ?_)
  refine vv_aload_n C dX5_year_78 0 rfl ?_
  refine vv_get (v := .ref (ad 25)) C (hi_X5_year_X5) 28 (wX_g28 cy ad fad _) rfl 1 (by decide) (List.mem_of_getElem? (i := 4) rfl) rfl dX5_year_79 ?_
  refine vv_callVv  (fun r13 => (wX cy ad fad r13)) C eX_ok h0 [.int r11, .int r12, .ref (ad 25)] [] 3 hF (fun r13 hr13 => kX0_goOn l D cy ad fad i2 r11 r12 r10 r13 hfl2_r10 hr13) gX5_year_X0_goOn rfl rfl rfl (by decide +kernel) ⟨by decide, by decide⟩ (29 + i2) (wX_farm cy ad fad r10 hfl2_r10) rfl rfl rfl (Nat.le_of_ble_eq_true rfl) dX5_year_82 ⟨by decide, by decide⟩ (fun r13 hqr13 hF => ?_)
  refine vv_lv [0, 1] rfl ?_
  exact vX5_year_85 C h0 hr (hk24) x1 r13  hF
set_option maxHeartbeats 4000000 in
set_option maxRecDepth 20000 in
theorem vX5_year_91 {p : Program} {l : Launch} {e : Env} {s : State} {m : MethodId} {args : Array Value} {below : List Frame} {meth : Method} {c : Code} {D : va_G} {A : Nat → Prop} {Q : State → Prop} {cy : Nat → ClassId} {ad fad : Nat → Nat} {res : Int32 × St_} (C : vv_X p s m args meth c D (tysW cy) A 4 cX5_year RX5 wsX5_year) (h0 : eX A s) (hr : rt_I p l e rmX5_year s m args below meth c D A 4 Q cX5_year .int (wX cy ad fad res.2) res.1) : ∀ (σ : St_), fX5_year_91  σ = some res → vv_ p l e rmX5_year s m args below meth c D A 4 Q 0 0 (wX cy ad fad σ) [(0, .ref (ad 28))] 91 [] := by
  intro σ hF
  replace hF : ((bn_ (fX4_endYear σ) fun r9 => some ((sS (uS r9 6 ((sS r9 6) + 1)) 6), uS r9 6 ((sS r9 6) + 1))) : Option (Int32 × St_)) = some res := hF
  refine vv_aload_n C dX5_year_91 0 rfl ?_
  refine vv_get (v := .ref (ad 26)) C (hi_X5_year_X5) 28 (wX_g28 cy ad fad _) rfl 2 (by decide) (List.mem_of_getElem? (i := 1) rfl) rfl dX5_year_92 ?_
  refine vv_callVv  (fun r9 => (wX cy ad fad r9)) C eX_ok h0 [] [] 0 hF (fun r9 hr9 => kX4_endYear l D cy ad fad σ r9  hr9) gX5_year_X4_endYear rfl rfl rfl (by decide +kernel) ⟨by decide, by decide⟩ 26 (wX_g26 cy ad fad _) rfl rfl rfl (Nat.le_of_ble_eq_true rfl) dX5_year_95 ⟨by decide, by decide⟩ (fun r9 hqr9 hF => ?_)
  refine vv_aload_n C dX5_year_98 0 rfl ?_
  refine vv_dup C dX5_year_99 rfl ?_
  refine vv_get (v := .int (sS r9 6)) C (hi_X5_year_X5) 28 (wX_g28 cy ad fad _) rfl 8 (by decide) (List.mem_of_getElem? (i := 2) rfl) rfl dX5_year_100 ?_
  refine vv_iconst (v := 1) C dX5_year_103 (by decide) ?_
  refine vv_iadd C dX5_year_104 ?_
  refine vv_put (w' := (wX cy ad fad (uS r9 6 ((sS r9 6) + 1)))) C (hi_X5_year_X5) tyX5 tyX5_ok nmX5 28 (wX_g28 cy ad fad _) rfl 8 (by decide) (List.mem_of_getElem? (i := 2) rfl) rfl rfl rfl (Nat.le_of_ble_eq_true rfl) dX5_year_105 (wX_s6 _ _ _ _ _) ?_
  refine vv_aload_n C dX5_year_108 0 rfl ?_
  refine vv_get (v := .int (sS (uS r9 6 ((sS r9 6) + 1)) 6)) C (hi_X5_year_X5) 28 (wX_g28 cy ad fad _) rfl 8 (by decide) (List.mem_of_getElem? (i := 2) rfl) rfl dX5_year_109 ?_
  cases hF
  exact hr _ _ dX5_year_112 rfl
set_option maxHeartbeats 4000000 in
set_option maxRecDepth 20000 in
theorem vX5_year_24 {p : Program} {l : Launch} {e : Env} {s : State} {m : MethodId} {args : Array Value} {below : List Frame} {meth : Method} {c : Code} {D : va_G} {A : Nat → Prop} {Q : State → Prop} {cy : Nat → ClassId} {ad fad : Nat → Nat} {res : Int32 × St_} (C : vv_X p s m args meth c D (tysW cy) A 4 cX5_year RX5 wsX5_year) (h0 : eX A s) (hr : rt_I p l e rmX5_year s m args below meth c D A 4 Q cX5_year .int (wX cy ad fad res.2) res.1) : ∀ (n : Nat) (x1 : Int32) (σ : St_), fX5_year_24  n x1 σ = some res → vv_ p l e rmX5_year s m args below meth c D A 4 Q 0 0 (wX cy ad fad σ) [(0, .ref (ad 28)), (1, .int x1)] 24 [] := by
  intro n
  induction n with
  | zero =>
    intro x1 σ hF
    cases (show none = some res from hF)
  | succ n ih =>
    intro x1 σ hF
    replace hF : ((if (sS σ 5) ≤ x1 then fX5_year_91  σ else (bn_ (fX5_farmAt x1 σ) fun r4 => (match r4 with | none => fX5_year_85 (fX5_year_24  n) x1 σ | some i5 => (bn_ (fX4_breachesAt x1 σ) fun r6 => (if r6 = 0 then fX5_year_61 (fX5_year_24  n) x1 i5 r6 0 i5 σ else fX5_year_61 (fX5_year_24  n) x1 i5 r6 1 i5 σ))))) : Option (Int32 × St_)) = some res := hF
    refine vv_iload_n C dX5_year_24 1 rfl ?_
    refine vv_aload_n C dX5_year_25 0 rfl ?_
    refine vv_get (v := .int (sS σ 5)) C (hi_X5_year_X5) 28 (wX_g28 cy ad fad _) rfl 7 (by decide) (List.mem_of_getElem? (i := 3) rfl) rfl dX5_year_26 ?_
    refine vv_icmp_ge (tgt := 91) C dX5_year_29 (by decide) hF (fun c8 hF => ?_) (fun c8 hF => ?_)
    · refine vv_lv [0] rfl ?_
      exact vX5_year_91 C h0 hr  σ  hF
    · refine vv_aload_n C dX5_year_32 0 rfl ?_
      refine vv_iload_n C dX5_year_33 1 rfl ?_
      refine vv_callVq (fun r4 => Option.map fad r4) (fun r4 => (wX cy ad fad σ)) C eX_ok h0 [.int x1] [] 1 hF (fun r4 hr4 => kX5_farmAt l D cy ad fad x1 σ r4  hr4) gX5_year_X5_farmAt rfl rfl rfl (by decide +kernel) ⟨by decide, by decide⟩ 28 (wX_g28 cy ad fad _) rfl rfl rfl (Nat.le_of_ble_eq_true rfl) dX5_year_34 ⟨by decide, by decide⟩ (fun r4 hqr4 hF => ?_)
      have hqr4 := kX5_farmAt_lt hqr4
      cases r4 with
      | none =>
        try dsimp only at hF
        refine vv_astore_nN (lv' := [(2, .null), (0, .ref (ad 28)), (1, .int x1)]) C dX5_year_37 (by decide) rfl ?_
        refine vv_aload_nN C dX5_year_38 0 rfl ?_
        refine vv_ifnullN (tgt := 85) C dX5_year_39 (by decide) ?_
        refine vv_lv [1, 2] rfl ?_
        exact vX5_year_85 C h0 hr (ih) x1 σ  hF
      | some i5 =>
        try dsimp only at hF
        have hi5 := hqr4 i5 rfl
        refine vv_astore_n (lv' := [(2, .ref (fad i5)), (0, .ref (ad 28)), (1, .int x1)]) C dX5_year_37 (by decide) rfl ?_
        refine vv_aload_n C dX5_year_38 0 rfl ?_
        refine vv_ifnull C dX5_year_39 ?_
        refine vv_aload_n C dX5_year_42 1 rfl ?_
        refine vv_get (v := .ref (ad 26)) C (hi_X5_year_X5) 28 (wX_g28 cy ad fad _) rfl 2 (by decide) (List.mem_of_getElem? (i := 1) rfl) rfl dX5_year_43 ?_
        refine vv_iload_n C dX5_year_46 2 rfl ?_
        refine vv_callVi (fun r6 => r6) (fun r6 => (wX cy ad fad σ)) C eX_ok h0 [.int x1] [] 1 hF (fun r6 hr6 => kX4_breachesAt l D cy ad fad x1 σ r6  hr6) gX5_year_X4_breachesAt rfl rfl rfl (by decide +kernel) ⟨by decide, by decide⟩ 26 (wX_g26 cy ad fad _) rfl rfl rfl (Nat.le_of_ble_eq_true rfl) dX5_year_47 ⟨by decide, by decide⟩ (fun r6 hqr6 hF => ?_)
        refine vv_istore_n (lv' := [(3, .int r6), (2, .ref (fad i5)), (0, .ref (ad 28)), (1, .int x1)]) C dX5_year_50 (by decide) rfl ?_
        refine vv_aload_n C dX5_year_51 1 rfl ?_
        refine vv_iload_n C dX5_year_52 0 rfl ?_
        refine vv_if_eq (tgt := 60) C dX5_year_53 (by decide) hF (fun c7 hF => ?_) (fun c7 hF => ?_)
        · refine vv_iconst (v := 0) C dX5_year_60 (by decide) ?_
          refine vv_lv [2, 3, 1, 0] rfl ?_
          exact vX5_year_61 C h0 hr (ih) x1 i5 r6 0 i5 σ hi5 hi5 hF
        · refine vv_iconst (v := 1) C dX5_year_56 (by decide) ?_
          refine vv_goto (tgt := 61) C dX5_year_57 (by decide) ?_
          refine vv_lv [2, 3, 1, 0] rfl ?_
          exact vX5_year_61 C h0 hr (ih) x1 i5 r6 1 i5 σ hi5 hi5 hF
set_option maxHeartbeats 4000000 in
set_option maxRecDepth 20000 in
theorem kX5_year (l : Launch) (D : va_G) (cy : Nat → ClassId) (ad fad : Nat → Nat) (σ : St_) (res : Int32 × St_)  (hF : fX5_year σ = some res) : ct_I l D (tysW cy) eX yX5_year wsX5_year rmX5_year [.ref (ad 28)] (wX cy ad fad σ) res.1 (wX cy ad fad res.2) := by
  refine mt_I (by decide) rfl (Nat.le_of_ble_eq_true rfl) ?_
  intro p e s m args below meth c A Q C h0 hr
  replace C : vv_X p s m args meth c D (tysW cy) A 4 cX5_year RX5 wsX5_year := C
  replace hF : ((bn_ (fX4_areLaid σ) fun r1 => (if r1 = 0 then some ((-1), σ) else (if (sS σ 6) < 500 then fX5_year_24  FU_ 0 σ else some ((-1), σ)))) : Option (Int32 × St_)) = some res := hF
  refine vv_lv [0] (lv' := [(0, .ref (ad 28))]) rfl ?_
  refine vv_aload_n C dX5_year_0 0 rfl ?_
  refine vv_get (v := .ref (ad 26)) C (hi_X5_year_X5) 28 (wX_g28 cy ad fad _) rfl 2 (by decide) (List.mem_of_getElem? (i := 1) rfl) rfl dX5_year_1 ?_
  refine vv_callVi (fun r1 => r1) (fun r1 => (wX cy ad fad σ)) C eX_ok h0 [] [] 0 hF (fun r1 hr1 => kX4_areLaid l D cy ad fad σ r1  hr1) gX5_year_X4_areLaid rfl rfl rfl (by decide +kernel) ⟨by decide, by decide⟩ 26 (wX_g26 cy ad fad _) rfl rfl rfl (Nat.le_of_ble_eq_true rfl) dX5_year_4 ⟨by decide, by decide⟩ (fun r1 hqr1 hF => ?_)
  refine vv_if_eq (tgt := 20) C dX5_year_7 (by decide) hF (fun c3 hF => ?_) (fun c3 hF => ?_)
  · refine vv_iconst (v := (-1)) C dX5_year_20 (by decide) ?_
    cases hF
    exact hr _ _ dX5_year_21 rfl
  · refine vv_aload_n C dX5_year_10 0 rfl ?_
    refine vv_get (v := .int (sS σ 6)) C (hi_X5_year_X5) 28 (wX_g28 cy ad fad _) rfl 8 (by decide) (List.mem_of_getElem? (i := 2) rfl) rfl dX5_year_11 ?_
    refine vv_sipush (v := 500) C dX5_year_14 (by decide) ?_
    refine vv_icmp_lt (tgt := 22) C dX5_year_17 (by decide) hF (fun c2 hF => ?_) (fun c2 hF => ?_)
    · refine vv_iconst (v := 0) C dX5_year_22 (by decide) ?_
      refine vv_istore_n (lv' := [(1, .int 0), (0, .ref (ad 28))]) C dX5_year_23 (by decide) rfl ?_
      refine vv_lv [1, 0] rfl ?_
      exact vX5_year_24 C h0 hr  FU_ 0 σ  hF
    · refine vv_iconst (v := (-1)) C dX5_year_20 (by decide) ?_
      cases hF
      exact hr _ _ dX5_year_21 rfl
/-! X5_sealed -/
abbrev rmX5_sealed : Room := { frames := 3, cells := 0, slots := 0, locals := 63 }
theorem hi_X5_sealed_X0 : ∀ w ∈ wsX00, w ∈ wsX5_sealed := fun w h => List.mem_cons_of_mem _ (List.mem_append_left _ (List.mem_append_right _ h))
theorem hi_X5_sealed_X5 : ∀ w ∈ wsX50, w ∈ wsX5_sealed := fun w h => List.mem_cons_of_mem _ (List.mem_append_left _ (List.mem_append_left _ (List.mem_append_right _ h)))
def fX5_sealed_62 (σ : St_) (k17 : Int32 → Int32 → Int32 → Int32 → Option Int32) (x1 : Int32) (x2 : Int32) (x3 : Int32) (x4 : Int32) : Option Int32 := k17 x1 x2 x3 (x4 + 1)
def fX5_sealed_94 (σ : St_) (t0 : Int32) : Option Int32 := (bn_ (fX5_oneIf t0) fun r11 => some r11)
def fX5_sealed_93 (σ : St_)  : Option Int32 := fX5_sealed_94 σ  0
def fX5_sealed_68 (σ : St_) (x2 : Int32) (x3 : Int32) : Option Int32 := (if x2 ≤ 0 then fX5_sealed_93 σ   else (bn_ (fX2_number 5 σ) fun r8 => (if (x3 * 100) < (r8 * x2) then fX5_sealed_93 σ   else fX5_sealed_94 σ  1)))
def fX5_sealed_17 (σ : St_) : Nat → Int32 → Int32 → Int32 → Int32 → Option Int32
  | 0, _, _, _, _ => none
  | n + 1, x1, x2, x3, x4 => (if (sS σ 5) ≤ x4 then fX5_sealed_68 σ  x2 x3 else (bn_ (fX5_farmAt x4 σ) fun r3 => (match r3 with | none => fX5_sealed_62 σ (fX5_sealed_17 σ  n) x1 x2 x3 x4 | some i4 => (if (sF σ i4 1) = x1 then (bn_ (fX5_oneIf (sF σ i4 2)) fun r5 => fX5_sealed_62 σ (fX5_sealed_17 σ  n) x1 (x2 + 1) (x3 + r5) x4) else fX5_sealed_62 σ (fX5_sealed_17 σ  n) x1 x2 x3 x4))))
def fX5_sealed (x1 : Int32) (σ : St_) : Option Int32 := (bn_ (fX5_isBelow x1 4) fun r1 => (if r1 = 0 then some (-1) else fX5_sealed_17 σ  FU_ x1 0 0 0))
set_option maxHeartbeats 4000000 in
set_option maxRecDepth 20000 in
theorem vX5_sealed_62 {p : Program} {l : Launch} {e : Env} {s : State} {m : MethodId} {args : Array Value} {below : List Frame} {meth : Method} {c : Code} {D : va_G} {A : Nat → Prop} {Q : State → Prop} {cy : Nat → ClassId} {ad fad : Nat → Nat} {k17 : Int32 → Int32 → Int32 → Int32 → Option Int32} {σ : St_} {res : Int32} (C : vv_X p s m args meth c D (tysW cy) A 6 cX5_sealed RX5 wsX5_sealed) (h0 : eX A s) (hr : rt_I p l e rmX5_sealed s m args below meth c D A 6 Q cX5_sealed .int (wX cy ad fad σ) res) (hk17 : ∀ (x1 : Int32) (x2 : Int32) (x3 : Int32) (x4 : Int32), k17 x1 x2 x3 x4 = some res → vv_ p l e rmX5_sealed s m args below meth c D A 6 Q 0 0 (wX cy ad fad σ) [(0, .ref (ad 28)), (1, .int x1), (2, .int x2), (3, .int x3), (4, .int x4)] 17 []) : ∀ (x1 : Int32) (x2 : Int32) (x3 : Int32) (x4 : Int32), fX5_sealed_62 σ k17 x1 x2 x3 x4 = some res → vv_ p l e rmX5_sealed s m args below meth c D A 6 Q 0 0 (wX cy ad fad σ) [(0, .ref (ad 28)), (1, .int x1), (2, .int x2), (3, .int x3), (4, .int x4)] 62 [] := by
  intro x1 x2 x3 x4 hF
  replace hF : (k17 x1 x2 x3 (x4 + 1) : Option Int32) = some res := hF
  refine vv_iinc (q := 4) (v := x4 + 1) (lv' := [(4, .int (x4 + 1)), (0, .ref (ad 28)), (1, .int x1), (2, .int x2), (3, .int x3)]) C dX5_sealed_62 rfl rfl (by decide) rfl ?_
  refine vv_goto (tgt := 17) C dX5_sealed_65 (by decide) ?_
  refine vv_lv [1, 2, 3, 4, 0] rfl ?_
  exact hk17 x1 x2 x3 (x4 + 1)  hF
set_option maxHeartbeats 4000000 in
set_option maxRecDepth 20000 in
theorem vX5_sealed_94 {p : Program} {l : Launch} {e : Env} {s : State} {m : MethodId} {args : Array Value} {below : List Frame} {meth : Method} {c : Code} {D : va_G} {A : Nat → Prop} {Q : State → Prop} {cy : Nat → ClassId} {ad fad : Nat → Nat} {σ : St_} {res : Int32} (C : vv_X p s m args meth c D (tysW cy) A 6 cX5_sealed RX5 wsX5_sealed) (h0 : eX A s) (hr : rt_I p l e rmX5_sealed s m args below meth c D A 6 Q cX5_sealed .int (wX cy ad fad σ) res) : ∀ (t0 : Int32), fX5_sealed_94 σ  t0 = some res → vv_ p l e rmX5_sealed s m args below meth c D A 6 Q 0 0 (wX cy ad fad σ) [] 94 [.int t0] := by
  intro t0 hF
  replace hF : ((bn_ (fX5_oneIf t0) fun r11 => some r11) : Option Int32) = some res := hF
  refine vv_callSi (fun r11 => r11) (fun r11 => (wX cy ad fad σ)) C eX_ok h0 [.int t0] [] 1 hF (fun r11 hr11 => kX5_oneIf l D (tysW cy) eX_ok (wX cy ad fad σ) t0 r11  hr11) gX5_sealed_X5_oneIf rfl rfl rfl (by decide +kernel) ⟨by decide, by decide⟩ rfl rfl (Nat.le_of_ble_eq_true rfl) dX5_sealed_94 ⟨by decide, by decide⟩ (fun r11 hqr11 hF => ?_)
  cases hF
  exact hr _ _ dX5_sealed_97 rfl
set_option maxHeartbeats 4000000 in
set_option maxRecDepth 20000 in
theorem vX5_sealed_93 {p : Program} {l : Launch} {e : Env} {s : State} {m : MethodId} {args : Array Value} {below : List Frame} {meth : Method} {c : Code} {D : va_G} {A : Nat → Prop} {Q : State → Prop} {cy : Nat → ClassId} {ad fad : Nat → Nat} {σ : St_} {res : Int32} (C : vv_X p s m args meth c D (tysW cy) A 6 cX5_sealed RX5 wsX5_sealed) (h0 : eX A s) (hr : rt_I p l e rmX5_sealed s m args below meth c D A 6 Q cX5_sealed .int (wX cy ad fad σ) res) : fX5_sealed_93 σ  = some res → vv_ p l e rmX5_sealed s m args below meth c D A 6 Q 0 0 (wX cy ad fad σ) [] 93 [] := by
  intro  hF
  replace hF : (fX5_sealed_94 σ  0 : Option Int32) = some res := hF
  refine vv_iconst (v := 0) C dX5_sealed_93 (by decide) ?_
  refine vv_lv [] rfl ?_
  exact vX5_sealed_94 C h0 hr  0  hF
set_option maxHeartbeats 4000000 in
set_option maxRecDepth 20000 in
theorem vX5_sealed_68 {p : Program} {l : Launch} {e : Env} {s : State} {m : MethodId} {args : Array Value} {below : List Frame} {meth : Method} {c : Code} {D : va_G} {A : Nat → Prop} {Q : State → Prop} {cy : Nat → ClassId} {ad fad : Nat → Nat} {σ : St_} {res : Int32} (C : vv_X p s m args meth c D (tysW cy) A 6 cX5_sealed RX5 wsX5_sealed) (h0 : eX A s) (hr : rt_I p l e rmX5_sealed s m args below meth c D A 6 Q cX5_sealed .int (wX cy ad fad σ) res) : ∀ (x2 : Int32) (x3 : Int32), fX5_sealed_68 σ  x2 x3 = some res → vv_ p l e rmX5_sealed s m args below meth c D A 6 Q 0 0 (wX cy ad fad σ) [(0, .ref (ad 28)), (2, .int x2), (3, .int x3)] 68 [] := by
  intro x2 x3 hF
  replace hF : ((if x2 ≤ 0 then fX5_sealed_93 σ   else (bn_ (fX2_number 5 σ) fun r8 => (if (x3 * 100) < (r8 * x2) then fX5_sealed_93 σ   else fX5_sealed_94 σ  1))) : Option Int32) = some res := hF
  refine vv_iload_n C dX5_sealed_68 1 rfl ?_
  refine vv_if_le (tgt := 93) C dX5_sealed_69 (by decide) hF (fun c10 hF => ?_) (fun c10 hF => ?_)
  · refine vv_lv [] rfl ?_
    exact vX5_sealed_93 C h0 hr    hF
  · refine vv_iload_n C dX5_sealed_72 2 rfl ?_
    refine vv_bipush (v := 100) C dX5_sealed_73 (by decide) ?_
    refine vv_imul C dX5_sealed_75 ?_
    refine vv_aload_n C dX5_sealed_76 0 rfl ?_
    refine vv_get (v := .ref (ad 25)) C (hi_X5_sealed_X5) 28 (wX_g28 cy ad fad _) rfl 1 (by decide) (List.mem_of_getElem? (i := 4) rfl) rfl dX5_sealed_77 ?_
    refine vv_iconst (v := 5) C dX5_sealed_80 (by decide) ?_
    refine vv_callVi (fun r8 => r8) (fun r8 => (wX cy ad fad σ)) C eX_ok h0 [.int 5] [.int (x3 * 100)] 1 hF (fun r8 hr8 => kX2_number l D cy ad fad 5 σ r8  hr8) gX5_sealed_X2_number rfl rfl rfl (by decide +kernel) ⟨by decide, by decide⟩ 25 (wX_g25 cy ad fad _) rfl rfl rfl (Nat.le_of_ble_eq_true rfl) dX5_sealed_81 ⟨by decide, by decide⟩ (fun r8 hqr8 hF => ?_)
    refine vv_iload_n C dX5_sealed_84 1 rfl ?_
    refine vv_imul C dX5_sealed_85 ?_
    refine vv_icmp_lt (tgt := 93) C dX5_sealed_86 (by decide) hF (fun c9 hF => ?_) (fun c9 hF => ?_)
    · refine vv_lv [] rfl ?_
      exact vX5_sealed_93 C h0 hr    hF
    · refine vv_iconst (v := 1) C dX5_sealed_89 (by decide) ?_
      refine vv_goto (tgt := 94) C dX5_sealed_90 (by decide) ?_
      refine vv_lv [] rfl ?_
      exact vX5_sealed_94 C h0 hr  1  hF
set_option maxHeartbeats 4000000 in
set_option maxRecDepth 20000 in
theorem vX5_sealed_17 {p : Program} {l : Launch} {e : Env} {s : State} {m : MethodId} {args : Array Value} {below : List Frame} {meth : Method} {c : Code} {D : va_G} {A : Nat → Prop} {Q : State → Prop} {cy : Nat → ClassId} {ad fad : Nat → Nat} {σ : St_} {res : Int32} (C : vv_X p s m args meth c D (tysW cy) A 6 cX5_sealed RX5 wsX5_sealed) (h0 : eX A s) (hr : rt_I p l e rmX5_sealed s m args below meth c D A 6 Q cX5_sealed .int (wX cy ad fad σ) res) : ∀ (n : Nat) (x1 : Int32) (x2 : Int32) (x3 : Int32) (x4 : Int32), fX5_sealed_17 σ  n x1 x2 x3 x4 = some res → vv_ p l e rmX5_sealed s m args below meth c D A 6 Q 0 0 (wX cy ad fad σ) [(0, .ref (ad 28)), (1, .int x1), (2, .int x2), (3, .int x3), (4, .int x4)] 17 [] := by
  intro n
  induction n with
  | zero =>
    intro x1 x2 x3 x4 hF
    cases (show none = some res from hF)
  | succ n ih =>
    intro x1 x2 x3 x4 hF
    replace hF : ((if (sS σ 5) ≤ x4 then fX5_sealed_68 σ  x2 x3 else (bn_ (fX5_farmAt x4 σ) fun r3 => (match r3 with | none => fX5_sealed_62 σ (fX5_sealed_17 σ  n) x1 x2 x3 x4 | some i4 => (if (sF σ i4 1) = x1 then (bn_ (fX5_oneIf (sF σ i4 2)) fun r5 => fX5_sealed_62 σ (fX5_sealed_17 σ  n) x1 (x2 + 1) (x3 + r5) x4) else fX5_sealed_62 σ (fX5_sealed_17 σ  n) x1 x2 x3 x4)))) : Option Int32) = some res := hF
    refine vv_iload C dX5_sealed_17 4 rfl ?_
    refine vv_aload_n C dX5_sealed_19 0 rfl ?_
    refine vv_get (v := .int (sS σ 5)) C (hi_X5_sealed_X5) 28 (wX_g28 cy ad fad _) rfl 7 (by decide) (List.mem_of_getElem? (i := 1) rfl) rfl dX5_sealed_20 ?_
    refine vv_icmp_ge (tgt := 68) C dX5_sealed_23 (by decide) hF (fun c7 hF => ?_) (fun c7 hF => ?_)
    · refine vv_lv [0, 2, 3] rfl ?_
      exact vX5_sealed_68 C h0 hr  x2 x3  hF
    · refine vv_aload_n C dX5_sealed_26 0 rfl ?_
      refine vv_iload C dX5_sealed_27 4 rfl ?_
      refine vv_callVq (fun r3 => Option.map fad r3) (fun r3 => (wX cy ad fad σ)) C eX_ok h0 [.int x4] [] 1 hF (fun r3 hr3 => kX5_farmAt l D cy ad fad x4 σ r3  hr3) gX5_sealed_X5_farmAt rfl rfl rfl (by decide +kernel) ⟨by decide, by decide⟩ 28 (wX_g28 cy ad fad _) rfl rfl rfl (Nat.le_of_ble_eq_true rfl) dX5_sealed_29 ⟨by decide, by decide⟩ (fun r3 hqr3 hF => ?_)
      have hqr3 := kX5_farmAt_lt hqr3
      cases r3 with
      | none =>
        try dsimp only at hF
        refine vv_astoreN (lv' := [(5, .null), (0, .ref (ad 28)), (1, .int x1), (2, .int x2), (3, .int x3), (4, .int x4)]) C dX5_sealed_32 (by decide) rfl ?_
        refine vv_aloadN C dX5_sealed_34 0 rfl ?_
        refine vv_ifnullN (tgt := 62) C dX5_sealed_36 (by decide) ?_
        refine vv_lv [1, 2, 3, 4, 5] rfl ?_
        exact vX5_sealed_62 C h0 hr (ih) x1 x2 x3 x4  hF
      | some i4 =>
        try dsimp only at hF
        have hi4 := hqr3 i4 rfl
        refine vv_astore (lv' := [(5, .ref (fad i4)), (0, .ref (ad 28)), (1, .int x1), (2, .int x2), (3, .int x3), (4, .int x4)]) C dX5_sealed_32 (by decide) rfl ?_
        refine vv_aload C dX5_sealed_34 0 rfl ?_
        refine vv_ifnull C dX5_sealed_36 ?_
        refine vv_aload C dX5_sealed_39 0 rfl ?_
        refine vv_get (v := .int (sF σ i4 1)) C (hi_X5_sealed_X0) (29 + i4) (wX_farm cy ad fad σ hi4) rfl 1 (by decide) (List.mem_of_getElem? (i := 2) rfl) rfl dX5_sealed_41 ?_
        refine vv_iload_n C dX5_sealed_44 2 rfl ?_
        refine vv_icmp_ne (tgt := 62) C dX5_sealed_45 (by decide) hF (fun c6 hF => ?_) (fun c6 hF => ?_)
        · refine vv_lv [1, 2, 3, 4, 5] rfl ?_
          exact vX5_sealed_62 C h0 hr (ih) x1 x2 x3 x4  hF
        · refine vv_iinc (q := 3) (v := x2 + 1) (lv' := [(2, .int (x2 + 1)), (5, .ref (fad i4)), (0, .ref (ad 28)), (1, .int x1), (3, .int x3), (4, .int x4)]) C dX5_sealed_48 rfl rfl (by decide) rfl ?_
          refine vv_iload_n C dX5_sealed_51 4 rfl ?_
          refine vv_aload C dX5_sealed_52 1 rfl ?_
          refine vv_get (v := .int (sF σ i4 2)) C (hi_X5_sealed_X0) (29 + i4) (wX_farm cy ad fad σ hi4) rfl 2 (by decide) (List.mem_of_getElem? (i := 3) rfl) rfl dX5_sealed_54 ?_
          refine vv_callSi (fun r5 => r5) (fun r5 => (wX cy ad fad σ)) C eX_ok h0 [.int (sF σ i4 2)] [.int x3] 1 hF (fun r5 hr5 => kX5_oneIf l D (tysW cy) eX_ok (wX cy ad fad σ) (sF σ i4 2) r5  hr5) gX5_sealed_X5_oneIf rfl rfl rfl (by decide +kernel) ⟨by decide, by decide⟩ rfl rfl (Nat.le_of_ble_eq_true rfl) dX5_sealed_57 ⟨by decide, by decide⟩ (fun r5 hqr5 hF => ?_)
          refine vv_iadd C dX5_sealed_60 ?_
          refine vv_istore_n (lv' := [(3, .int (x3 + r5)), (2, .int (x2 + 1)), (5, .ref (fad i4)), (0, .ref (ad 28)), (1, .int x1), (4, .int x4)]) C dX5_sealed_61 (by decide) rfl ?_
          refine vv_lv [3, 4, 1, 0, 5] rfl ?_
          exact vX5_sealed_62 C h0 hr (ih) x1 (x2 + 1) (x3 + r5) x4  hF
set_option maxHeartbeats 4000000 in
set_option maxRecDepth 20000 in
theorem kX5_sealed (l : Launch) (D : va_G) (cy : Nat → ClassId) (ad fad : Nat → Nat) (x1 : Int32) (σ : St_) (res : Int32)  (hF : fX5_sealed x1 σ = some res) : ct_I l D (tysW cy) eX yX5_sealed wsX5_sealed rmX5_sealed [.ref (ad 28), .int x1] (wX cy ad fad σ) res (wX cy ad fad σ) := by
  refine mt_I (by decide) rfl (Nat.le_of_ble_eq_true rfl) ?_
  intro p e s m args below meth c A Q C h0 hr
  replace C : vv_X p s m args meth c D (tysW cy) A 6 cX5_sealed RX5 wsX5_sealed := C
  replace hF : ((bn_ (fX5_isBelow x1 4) fun r1 => (if r1 = 0 then some (-1) else fX5_sealed_17 σ  FU_ x1 0 0 0)) : Option Int32) = some res := hF
  refine vv_lv [0, 1] (lv' := [(0, .ref (ad 28)), (1, .int x1)]) rfl ?_
  refine vv_iload_n C dX5_sealed_0 1 rfl ?_
  refine vv_iconst (v := 4) C dX5_sealed_1 (by decide) ?_
  refine vv_callSi (fun r1 => r1) (fun r1 => (wX cy ad fad σ)) C eX_ok h0 [.int x1, .int 4] [] 2 hF (fun r1 hr1 => kX5_isBelow l D (tysW cy) eX_ok (wX cy ad fad σ) x1 4 r1  hr1) gX5_sealed_X5_isBelow rfl rfl rfl (by decide +kernel) ⟨by decide, by decide⟩ rfl rfl (Nat.le_of_ble_eq_true rfl) dX5_sealed_2 ⟨by decide, by decide⟩ (fun r1 hqr1 hF => ?_)
  refine vv_if_ne (tgt := 10) C dX5_sealed_5 (by decide) hF (fun c2 hF => ?_) (fun c2 hF => ?_)
  · refine vv_iconst (v := 0) C dX5_sealed_10 (by decide) ?_
    refine vv_istore_n (lv' := [(2, .int 0), (0, .ref (ad 28)), (1, .int x1)]) C dX5_sealed_11 (by decide) rfl ?_
    refine vv_iconst (v := 0) C dX5_sealed_12 (by decide) ?_
    refine vv_istore_n (lv' := [(3, .int 0), (2, .int 0), (0, .ref (ad 28)), (1, .int x1)]) C dX5_sealed_13 (by decide) rfl ?_
    refine vv_iconst (v := 0) C dX5_sealed_14 (by decide) ?_
    refine vv_istore (lv' := [(4, .int 0), (3, .int 0), (2, .int 0), (0, .ref (ad 28)), (1, .int x1)]) C dX5_sealed_15 (by decide) rfl ?_
    refine vv_lv [3, 4, 2, 1, 0] rfl ?_
    exact vX5_sealed_17 C h0 hr  FU_ x1 0 0 0  hF
  · refine vv_iconst (v := (-1)) C dX5_sealed_8 (by decide) ?_
    cases hF
    exact hr _ _ dX5_sealed_9 rfl
/-! X5_barred -/
abbrev rmX5_barred : Room := { frames := 5, cells := 0, slots := 0, locals := 109 }
def fX5_barred (x1 : Int32) (x2 : Int32) (σ : St_) : Option Int32 := (bn_ (fX5_areFarms x1 x2 σ) fun r1 => (if r1 = 0 then some (-1) else (bn_ (fX5_isBarred x1 x2 σ) fun r2 => (bn_ (fX5_oneIf r2) fun r3 => some r3))))
set_option maxHeartbeats 4000000 in
set_option maxRecDepth 20000 in
theorem kX5_barred (l : Launch) (D : va_G) (cy : Nat → ClassId) (ad fad : Nat → Nat) (x1 : Int32) (x2 : Int32) (σ : St_) (res : Int32)  (hF : fX5_barred x1 x2 σ = some res) : ct_I l D (tysW cy) eX yX5_barred wsX5_barred rmX5_barred [.ref (ad 28), .int x1, .int x2] (wX cy ad fad σ) res (wX cy ad fad σ) := by
  refine mt_I (by decide) rfl (Nat.le_of_ble_eq_true rfl) ?_
  intro p e s m args below meth c A Q C h0 hr
  replace C : vv_X p s m args meth c D (tysW cy) A 3 cX5_barred RX5 wsX5_barred := C
  replace hF : ((bn_ (fX5_areFarms x1 x2 σ) fun r1 => (if r1 = 0 then some (-1) else (bn_ (fX5_isBarred x1 x2 σ) fun r2 => (bn_ (fX5_oneIf r2) fun r3 => some r3)))) : Option Int32) = some res := hF
  refine vv_lv [0, 1, 2] (lv' := [(0, .ref (ad 28)), (1, .int x1), (2, .int x2)]) rfl ?_
  refine vv_aload_n C dX5_barred_0 0 rfl ?_
  refine vv_iload_n C dX5_barred_1 1 rfl ?_
  refine vv_iload_n C dX5_barred_2 2 rfl ?_
  refine vv_callVi (fun r1 => r1) (fun r1 => (wX cy ad fad σ)) C eX_ok h0 [.int x1, .int x2] [] 2 hF (fun r1 hr1 => kX5_areFarms l D cy ad fad x1 x2 σ r1  hr1) gX5_barred_X5_areFarms rfl rfl rfl (by decide +kernel) ⟨by decide, by decide⟩ 28 (wX_g28 cy ad fad _) rfl rfl rfl (Nat.le_of_ble_eq_true rfl) dX5_barred_3 ⟨by decide, by decide⟩ (fun r1 hqr1 hF => ?_)
  refine vv_if_ne (tgt := 11) C dX5_barred_6 (by decide) hF (fun c4 hF => ?_) (fun c4 hF => ?_)
  · refine vv_aload_n C dX5_barred_11 0 rfl ?_
    refine vv_iload_n C dX5_barred_12 1 rfl ?_
    refine vv_iload_n C dX5_barred_13 2 rfl ?_
    refine vv_callVi (fun r2 => r2) (fun r2 => (wX cy ad fad σ)) C eX_ok h0 [.int x1, .int x2] [] 2 hF (fun r2 hr2 => kX5_isBarred l D cy ad fad x1 x2 σ r2  hr2) gX5_barred_X5_isBarred rfl rfl rfl (by decide +kernel) ⟨by decide, by decide⟩ 28 (wX_g28 cy ad fad _) rfl rfl rfl (Nat.le_of_ble_eq_true rfl) dX5_barred_14 ⟨by decide, by decide⟩ (fun r2 hqr2 hF => ?_)
    refine vv_callSi (fun r3 => r3) (fun r3 => (wX cy ad fad σ)) C eX_ok h0 [.int r2] [] 1 hF (fun r3 hr3 => kX5_oneIf l D (tysW cy) eX_ok (wX cy ad fad σ) r2 r3  hr3) gX5_barred_X5_oneIf rfl rfl rfl (by decide +kernel) ⟨by decide, by decide⟩ rfl rfl (Nat.le_of_ble_eq_true rfl) dX5_barred_17 ⟨by decide, by decide⟩ (fun r3 hqr3 hF => ?_)
    cases hF
    exact hr _ _ dX5_barred_20 rfl
  · refine vv_iconst (v := (-1)) C dX5_barred_9 (by decide) ?_
    cases hF
    exact hr _ _ dX5_barred_10 rfl
/-! X5_look -/
abbrev rmX5_look : Room := { frames := 3, cells := 0, slots := 0, locals := 66 }
theorem hi_X5_look_X0 : ∀ w ∈ wsX00, w ∈ wsX5_look := fun w h => List.mem_cons_of_mem _ (List.mem_append_left _ (List.mem_append_left _ (List.mem_append_right _ h)))
theorem hi_X5_look_X5 : ∀ w ∈ wsX50, w ∈ wsX5_look := fun w h => List.mem_cons_of_mem _ (List.mem_append_left _ (List.mem_append_right _ h))
def fX5_look (x1 : Int32) (x2 : Int32) (σ : St_) : Option Int32 := (bn_ (fX5_farmAt x1 σ) fun r1 => (match r1 with | none => some (-1) | some i2 => (if x2 = 0 then some (sF σ i2 0) else if x2 = 1 then some (sF σ i2 1) else if x2 = 2 then (bn_ (fX5_oneIf (sF σ i2 2)) fun r5 => some r5) else if x2 = 3 then some (sF σ i2 3) else if x2 = 4 then some (sF σ i2 4) else if x2 = 5 then some (sF σ i2 5) else if x2 = 6 then some (sF σ i2 7) else if x2 = 7 then some (sF σ i2 6) else if x2 = 8 then (bn_ (fX4_visitorCount x1 σ) fun r12 => some r12) else if x2 = 9 then (bn_ (fX4_visitsBy x1 σ) fun r14 => some r14) else some (-1))))
set_option maxHeartbeats 4000000 in
set_option maxRecDepth 20000 in
theorem kX5_look (l : Launch) (D : va_G) (cy : Nat → ClassId) (ad fad : Nat → Nat) (x1 : Int32) (x2 : Int32) (σ : St_) (res : Int32)  (hF : fX5_look x1 x2 σ = some res) : ct_I l D (tysW cy) eX yX5_look wsX5_look rmX5_look [.ref (ad 28), .int x1, .int x2] (wX cy ad fad σ) res (wX cy ad fad σ) := by
  refine mt_I (by decide) rfl (Nat.le_of_ble_eq_true rfl) ?_
  intro p e s m args below meth c A Q C h0 hr
  replace C : vv_X p s m args meth c D (tysW cy) A 4 cX5_look RX5 wsX5_look := C
  replace hF : ((bn_ (fX5_farmAt x1 σ) fun r1 => (match r1 with | none => some (-1) | some i2 => (if x2 = 0 then some (sF σ i2 0) else if x2 = 1 then some (sF σ i2 1) else if x2 = 2 then (bn_ (fX5_oneIf (sF σ i2 2)) fun r5 => some r5) else if x2 = 3 then some (sF σ i2 3) else if x2 = 4 then some (sF σ i2 4) else if x2 = 5 then some (sF σ i2 5) else if x2 = 6 then some (sF σ i2 7) else if x2 = 7 then some (sF σ i2 6) else if x2 = 8 then (bn_ (fX4_visitorCount x1 σ) fun r12 => some r12) else if x2 = 9 then (bn_ (fX4_visitsBy x1 σ) fun r14 => some r14) else some (-1)))) : Option Int32) = some res := hF
  refine vv_lv [0, 1, 2] (lv' := [(0, .ref (ad 28)), (1, .int x1), (2, .int x2)]) rfl ?_
  refine vv_aload_n C dX5_look_0 0 rfl ?_
  refine vv_iload_n C dX5_look_1 1 rfl ?_
  refine vv_callVq (fun r1 => Option.map fad r1) (fun r1 => (wX cy ad fad σ)) C eX_ok h0 [.int x1] [] 1 hF (fun r1 hr1 => kX5_farmAt l D cy ad fad x1 σ r1  hr1) gX5_look_X5_farmAt rfl rfl rfl (by decide +kernel) ⟨by decide, by decide⟩ 28 (wX_g28 cy ad fad _) rfl rfl rfl (Nat.le_of_ble_eq_true rfl) dX5_look_2 ⟨by decide, by decide⟩ (fun r1 hqr1 hF => ?_)
  have hqr1 := kX5_farmAt_lt hqr1
  cases r1 with
  | none =>
    try dsimp only at hF
    refine vv_astore_nN (lv' := [(3, .null), (0, .ref (ad 28)), (1, .int x1), (2, .int x2)]) C dX5_look_5 (by decide) rfl ?_
    refine vv_aload_nN C dX5_look_6 0 rfl ?_
    refine vv_ifnonnullN C dX5_look_7 ?_
    refine vv_iconst (v := (-1)) C dX5_look_10 (by decide) ?_
    cases hF
    exact hr _ _ dX5_look_11 rfl
  | some i2 =>
    try dsimp only at hF
    have hi2 := hqr1 i2 rfl
    refine vv_astore_n (lv' := [(3, .ref (fad i2)), (0, .ref (ad 28)), (1, .int x1), (2, .int x2)]) C dX5_look_5 (by decide) rfl ?_
    refine vv_aload_n C dX5_look_6 0 rfl ?_
    refine vv_ifnonnull (tgt := 12) C dX5_look_7 (by decide) ?_
    refine vv_iload_n C dX5_look_12 3 rfl ?_
    by_cases s3 : x2 = 0
    · rw [if_pos s3] at hF
      refine vv_tableIn (tgt := 68) C 0 s3 dX5_look_13 (by decide +kernel) (by decide +kernel) rfl (by decide) ?_
      refine vv_aload_n C dX5_look_68 0 rfl ?_
      refine vv_get (v := .int (sF σ i2 0)) C (hi_X5_look_X0) (29 + i2) (wX_farm cy ad fad σ hi2) rfl 0 (by decide) (List.mem_of_getElem? (i := 1) rfl) rfl dX5_look_69 ?_
      cases hF
      exact hr _ _ dX5_look_72 rfl
    rw [if_neg s3] at hF
    by_cases s4 : x2 = 1
    · rw [if_pos s4] at hF
      refine vv_tableIn (tgt := 73) C 1 s4 dX5_look_13 (by decide +kernel) (by decide +kernel) rfl (by decide) ?_
      refine vv_aload_n C dX5_look_73 0 rfl ?_
      refine vv_get (v := .int (sF σ i2 1)) C (hi_X5_look_X0) (29 + i2) (wX_farm cy ad fad σ hi2) rfl 1 (by decide) (List.mem_of_getElem? (i := 2) rfl) rfl dX5_look_74 ?_
      cases hF
      exact hr _ _ dX5_look_77 rfl
    rw [if_neg s4] at hF
    by_cases s6 : x2 = 2
    · rw [if_pos s6] at hF
      refine vv_tableIn (tgt := 78) C 2 s6 dX5_look_13 (by decide +kernel) (by decide +kernel) rfl (by decide) ?_
      refine vv_aload_n C dX5_look_78 0 rfl ?_
      refine vv_get (v := .int (sF σ i2 2)) C (hi_X5_look_X0) (29 + i2) (wX_farm cy ad fad σ hi2) rfl 2 (by decide) (List.mem_of_getElem? (i := 3) rfl) rfl dX5_look_79 ?_
      refine vv_callSi (fun r5 => r5) (fun r5 => (wX cy ad fad σ)) C eX_ok h0 [.int (sF σ i2 2)] [] 1 hF (fun r5 hr5 => kX5_oneIf l D (tysW cy) eX_ok (wX cy ad fad σ) (sF σ i2 2) r5  hr5) gX5_look_X5_oneIf rfl rfl rfl (by decide +kernel) ⟨by decide, by decide⟩ rfl rfl (Nat.le_of_ble_eq_true rfl) dX5_look_82 ⟨by decide, by decide⟩ (fun r5 hqr5 hF => ?_)
      cases hF
      exact hr _ _ dX5_look_85 rfl
    rw [if_neg s6] at hF
    by_cases s7 : x2 = 3
    · rw [if_pos s7] at hF
      refine vv_tableIn (tgt := 86) C 3 s7 dX5_look_13 (by decide +kernel) (by decide +kernel) rfl (by decide) ?_
      refine vv_aload_n C dX5_look_86 0 rfl ?_
      refine vv_get (v := .int (sF σ i2 3)) C (hi_X5_look_X0) (29 + i2) (wX_farm cy ad fad σ hi2) rfl 3 (by decide) (List.mem_of_getElem? (i := 4) rfl) rfl dX5_look_87 ?_
      cases hF
      exact hr _ _ dX5_look_90 rfl
    rw [if_neg s7] at hF
    by_cases s8 : x2 = 4
    · rw [if_pos s8] at hF
      refine vv_tableIn (tgt := 91) C 4 s8 dX5_look_13 (by decide +kernel) (by decide +kernel) rfl (by decide) ?_
      refine vv_aload_n C dX5_look_91 0 rfl ?_
      refine vv_get (v := .int (sF σ i2 4)) C (hi_X5_look_X0) (29 + i2) (wX_farm cy ad fad σ hi2) rfl 4 (by decide) (List.mem_of_getElem? (i := 5) rfl) rfl dX5_look_92 ?_
      cases hF
      exact hr _ _ dX5_look_95 rfl
    rw [if_neg s8] at hF
    by_cases s9 : x2 = 5
    · rw [if_pos s9] at hF
      refine vv_tableIn (tgt := 96) C 5 s9 dX5_look_13 (by decide +kernel) (by decide +kernel) rfl (by decide) ?_
      refine vv_aload_n C dX5_look_96 0 rfl ?_
      refine vv_get (v := .int (sF σ i2 5)) C (hi_X5_look_X0) (29 + i2) (wX_farm cy ad fad σ hi2) rfl 5 (by decide) (List.mem_of_getElem? (i := 6) rfl) rfl dX5_look_97 ?_
      cases hF
      exact hr _ _ dX5_look_100 rfl
    rw [if_neg s9] at hF
    by_cases s10 : x2 = 6
    · rw [if_pos s10] at hF
      refine vv_tableIn (tgt := 101) C 6 s10 dX5_look_13 (by decide +kernel) (by decide +kernel) rfl (by decide) ?_
      refine vv_aload_n C dX5_look_101 0 rfl ?_
      refine vv_get (v := .int (sF σ i2 7)) C (hi_X5_look_X0) (29 + i2) (wX_farm cy ad fad σ hi2) rfl 7 (by decide) (List.mem_of_getElem? (i := 7) rfl) rfl dX5_look_102 ?_
      cases hF
      exact hr _ _ dX5_look_105 rfl
    rw [if_neg s10] at hF
    by_cases s11 : x2 = 7
    · rw [if_pos s11] at hF
      refine vv_tableIn (tgt := 106) C 7 s11 dX5_look_13 (by decide +kernel) (by decide +kernel) rfl (by decide) ?_
      refine vv_aload_n C dX5_look_106 0 rfl ?_
      refine vv_get (v := .int (sF σ i2 6)) C (hi_X5_look_X0) (29 + i2) (wX_farm cy ad fad σ hi2) rfl 6 (by decide) (List.mem_of_getElem? (i := 8) rfl) rfl dX5_look_107 ?_
      cases hF
      exact hr _ _ dX5_look_110 rfl
    rw [if_neg s11] at hF
    by_cases s13 : x2 = 8
    · rw [if_pos s13] at hF
      refine vv_tableIn (tgt := 111) C 8 s13 dX5_look_13 (by decide +kernel) (by decide +kernel) rfl (by decide) ?_
      refine vv_aload_n C dX5_look_111 1 rfl ?_
      refine vv_get (v := .ref (ad 26)) C (hi_X5_look_X5) 28 (wX_g28 cy ad fad _) rfl 2 (by decide) (List.mem_of_getElem? (i := 9) rfl) rfl dX5_look_112 ?_
      refine vv_iload_n C dX5_look_115 2 rfl ?_
      refine vv_callVi (fun r12 => r12) (fun r12 => (wX cy ad fad σ)) C eX_ok h0 [.int x1] [] 1 hF (fun r12 hr12 => kX4_visitorCount l D cy ad fad x1 σ r12  hr12) gX5_look_X4_visitorCount rfl rfl rfl (by decide +kernel) ⟨by decide, by decide⟩ 26 (wX_g26 cy ad fad _) rfl rfl rfl (Nat.le_of_ble_eq_true rfl) dX5_look_116 ⟨by decide, by decide⟩ (fun r12 hqr12 hF => ?_)
      cases hF
      exact hr _ _ dX5_look_119 rfl
    rw [if_neg s13] at hF
    by_cases s15 : x2 = 9
    · rw [if_pos s15] at hF
      refine vv_tableIn (tgt := 120) C 9 s15 dX5_look_13 (by decide +kernel) (by decide +kernel) rfl (by decide) ?_
      refine vv_aload_n C dX5_look_120 1 rfl ?_
      refine vv_get (v := .ref (ad 26)) C (hi_X5_look_X5) 28 (wX_g28 cy ad fad _) rfl 2 (by decide) (List.mem_of_getElem? (i := 9) rfl) rfl dX5_look_121 ?_
      refine vv_iload_n C dX5_look_124 2 rfl ?_
      refine vv_callVi (fun r14 => r14) (fun r14 => (wX cy ad fad σ)) C eX_ok h0 [.int x1] [] 1 hF (fun r14 hr14 => kX4_visitsBy l D cy ad fad x1 σ r14  hr14) gX5_look_X4_visitsBy rfl rfl rfl (by decide +kernel) ⟨by decide, by decide⟩ 26 (wX_g26 cy ad fad _) rfl rfl rfl (Nat.le_of_ble_eq_true rfl) dX5_look_125 ⟨by decide, by decide⟩ (fun r14 hqr14 hF => ?_)
      cases hF
      exact hr _ _ dX5_look_128 rfl
    rw [if_neg s15] at hF
    have ts3 := lv_neT s3 (a := 0) (by decide +kernel)
    have ts4 := lv_neT s4 (a := 1) (by decide +kernel)
    have ts6 := lv_neT s6 (a := 2) (by decide +kernel)
    have ts7 := lv_neT s7 (a := 3) (by decide +kernel)
    have ts8 := lv_neT s8 (a := 4) (by decide +kernel)
    have ts9 := lv_neT s9 (a := 5) (by decide +kernel)
    have ts10 := lv_neT s10 (a := 6) (by decide +kernel)
    have ts11 := lv_neT s11 (a := 7) (by decide +kernel)
    have ts13 := lv_neT s13 (a := 8) (by decide +kernel)
    have ts15 := lv_neT s15 (a := 9) (by decide +kernel)
    refine vv_tableOut (tgt := 129) C dX5_look_13 (by omega) (by decide) ?_
    refine vv_iconst (v := (-1)) C dX5_look_129 (by decide) ?_
    cases hF
    exact hr _ _ dX5_look_130 rfl
/-! X5_count -/
abbrev rmX5_count : Room := { frames := 4, cells := 0, slots := 0, locals := 86 }
theorem hi_X5_count_X5 : ∀ w ∈ wsX50, w ∈ wsX5_count := fun w h => List.mem_cons_of_mem _ (List.mem_append_left _ (List.mem_append_left _ (List.mem_append_left _ (List.mem_append_left _ (List.mem_append_right _ h)))))
def fX5_count (x1 : Int32) (σ : St_) : Option Int32 := (bn_ (fX5_isBelow (x1 - 10) 6) fun r1 => (if r1 = 0 then (bn_ (fX5_isBelow (x1 - 20) 8) fun r2 => (if r2 = 0 then (if x1 = 0 then some (sS σ 5) else if x1 = 1 then some (sS σ 6) else if x1 = 2 then (bn_ (fX4_areLaid σ) fun r5 => (bn_ (fX5_oneIf r5) fun r6 => some r6)) else if x1 = 3 then (bn_ (fX4_total σ) fun r8 => some r8) else if x1 = 4 then (bn_ (fX5_countSeals σ) fun r10 => some r10) else if x1 = 5 then (bn_ (fX5_countOut σ) fun r12 => some r12) else if x1 = 6 then (bn_ (fX3_size σ) fun r14 => some r14) else some (-1)) else (gd_ (x1 - 20) 8 fun j16 => some (sM σ 11 j16)))) else (bn_ (fX2_number (x1 - 10) σ) fun r18 => some r18)))
set_option maxHeartbeats 4000000 in
set_option maxRecDepth 20000 in
theorem kX5_count (l : Launch) (D : va_G) (cy : Nat → ClassId) (ad fad : Nat → Nat) (x1 : Int32) (σ : St_) (res : Int32)  (hF : fX5_count x1 σ = some res) : ct_I l D (tysW cy) eX yX5_count wsX5_count rmX5_count [.ref (ad 28), .int x1] (wX cy ad fad σ) res (wX cy ad fad σ) := by
  refine mt_I (by decide) rfl (Nat.le_of_ble_eq_true rfl) ?_
  intro p e s m args below meth c A Q C h0 hr
  replace C : vv_X p s m args meth c D (tysW cy) A 2 cX5_count RX5 wsX5_count := C
  replace hF : ((bn_ (fX5_isBelow (x1 - 10) 6) fun r1 => (if r1 = 0 then (bn_ (fX5_isBelow (x1 - 20) 8) fun r2 => (if r2 = 0 then (if x1 = 0 then some (sS σ 5) else if x1 = 1 then some (sS σ 6) else if x1 = 2 then (bn_ (fX4_areLaid σ) fun r5 => (bn_ (fX5_oneIf r5) fun r6 => some r6)) else if x1 = 3 then (bn_ (fX4_total σ) fun r8 => some r8) else if x1 = 4 then (bn_ (fX5_countSeals σ) fun r10 => some r10) else if x1 = 5 then (bn_ (fX5_countOut σ) fun r12 => some r12) else if x1 = 6 then (bn_ (fX3_size σ) fun r14 => some r14) else some (-1)) else (gd_ (x1 - 20) 8 fun j16 => some (sM σ 11 j16)))) else (bn_ (fX2_number (x1 - 10) σ) fun r18 => some r18))) : Option Int32) = some res := hF
  refine vv_lv [0, 1] (lv' := [(0, .ref (ad 28)), (1, .int x1)]) rfl ?_
  refine vv_iload_n C dX5_count_0 1 rfl ?_
  refine vv_bipush (v := 10) C dX5_count_1 (by decide) ?_
  refine vv_isub C dX5_count_3 ?_
  refine vv_bipush (v := 6) C dX5_count_4 (by decide) ?_
  refine vv_callSi (fun r1 => r1) (fun r1 => (wX cy ad fad σ)) C eX_ok h0 [.int (x1 - 10), .int 6] [] 2 hF (fun r1 hr1 => kX5_isBelow l D (tysW cy) eX_ok (wX cy ad fad σ) (x1 - 10) 6 r1  hr1) gX5_count_X5_isBelow rfl rfl rfl (by decide +kernel) ⟨by decide, by decide⟩ rfl rfl (Nat.le_of_ble_eq_true rfl) dX5_count_6 ⟨by decide, by decide⟩ (fun r1 hqr1 hF => ?_)
  refine vv_if_eq (tgt := 24) C dX5_count_9 (by decide) hF (fun c19 hF => ?_) (fun c19 hF => ?_)
  · refine vv_iload_n C dX5_count_24 1 rfl ?_
    refine vv_bipush (v := 20) C dX5_count_25 (by decide) ?_
    refine vv_isub C dX5_count_27 ?_
    refine vv_bipush (v := 8) C dX5_count_28 (by decide) ?_
    refine vv_callSi (fun r2 => r2) (fun r2 => (wX cy ad fad σ)) C eX_ok h0 [.int (x1 - 20), .int 8] [] 2 hF (fun r2 hr2 => kX5_isBelow l D (tysW cy) eX_ok (wX cy ad fad σ) (x1 - 20) 8 r2  hr2) gX5_count_X5_isBelow rfl rfl rfl (by decide +kernel) ⟨by decide, by decide⟩ rfl rfl (Nat.le_of_ble_eq_true rfl) dX5_count_30 ⟨by decide, by decide⟩ (fun r2 hqr2 hF => ?_)
    refine vv_if_eq (tgt := 46) C dX5_count_33 (by decide) hF (fun c17 hF => ?_) (fun c17 hF => ?_)
    · refine vv_iload_n C dX5_count_46 1 rfl ?_
      by_cases s3 : x1 = 0
      · rw [if_pos s3] at hF
        refine vv_tableIn (tgt := 88) C 0 s3 dX5_count_47 (by decide +kernel) (by decide +kernel) rfl (by decide) ?_
        refine vv_aload_n C dX5_count_88 0 rfl ?_
        refine vv_get (v := .int (sS σ 5)) C (hi_X5_count_X5) 28 (wX_g28 cy ad fad _) rfl 7 (by decide) (List.mem_of_getElem? (i := 3) rfl) rfl dX5_count_89 ?_
        cases hF
        exact hr _ _ dX5_count_92 rfl
      rw [if_neg s3] at hF
      by_cases s4 : x1 = 1
      · rw [if_pos s4] at hF
        refine vv_tableIn (tgt := 93) C 1 s4 dX5_count_47 (by decide +kernel) (by decide +kernel) rfl (by decide) ?_
        refine vv_aload_n C dX5_count_93 0 rfl ?_
        refine vv_get (v := .int (sS σ 6)) C (hi_X5_count_X5) 28 (wX_g28 cy ad fad _) rfl 8 (by decide) (List.mem_of_getElem? (i := 4) rfl) rfl dX5_count_94 ?_
        cases hF
        exact hr _ _ dX5_count_97 rfl
      rw [if_neg s4] at hF
      by_cases s7 : x1 = 2
      · rw [if_pos s7] at hF
        refine vv_tableIn (tgt := 98) C 2 s7 dX5_count_47 (by decide +kernel) (by decide +kernel) rfl (by decide) ?_
        refine vv_aload_n C dX5_count_98 0 rfl ?_
        refine vv_get (v := .ref (ad 26)) C (hi_X5_count_X5) 28 (wX_g28 cy ad fad _) rfl 2 (by decide) (List.mem_of_getElem? (i := 5) rfl) rfl dX5_count_99 ?_
        refine vv_callVi (fun r5 => r5) (fun r5 => (wX cy ad fad σ)) C eX_ok h0 [] [] 0 hF (fun r5 hr5 => kX4_areLaid l D cy ad fad σ r5  hr5) gX5_count_X4_areLaid rfl rfl rfl (by decide +kernel) ⟨by decide, by decide⟩ 26 (wX_g26 cy ad fad _) rfl rfl rfl (Nat.le_of_ble_eq_true rfl) dX5_count_102 ⟨by decide, by decide⟩ (fun r5 hqr5 hF => ?_)
        refine vv_callSi (fun r6 => r6) (fun r6 => (wX cy ad fad σ)) C eX_ok h0 [.int r5] [] 1 hF (fun r6 hr6 => kX5_oneIf l D (tysW cy) eX_ok (wX cy ad fad σ) r5 r6  hr6) gX5_count_X5_oneIf rfl rfl rfl (by decide +kernel) ⟨by decide, by decide⟩ rfl rfl (Nat.le_of_ble_eq_true rfl) dX5_count_105 ⟨by decide, by decide⟩ (fun r6 hqr6 hF => ?_)
        cases hF
        exact hr _ _ dX5_count_108 rfl
      rw [if_neg s7] at hF
      by_cases s9 : x1 = 3
      · rw [if_pos s9] at hF
        refine vv_tableIn (tgt := 109) C 3 s9 dX5_count_47 (by decide +kernel) (by decide +kernel) rfl (by decide) ?_
        refine vv_aload_n C dX5_count_109 0 rfl ?_
        refine vv_get (v := .ref (ad 26)) C (hi_X5_count_X5) 28 (wX_g28 cy ad fad _) rfl 2 (by decide) (List.mem_of_getElem? (i := 5) rfl) rfl dX5_count_110 ?_
        refine vv_callVi (fun r8 => r8) (fun r8 => (wX cy ad fad σ)) C eX_ok h0 [] [] 0 hF (fun r8 hr8 => kX4_total l D cy ad fad σ r8  hr8) gX5_count_X4_total rfl rfl rfl (by decide +kernel) ⟨by decide, by decide⟩ 26 (wX_g26 cy ad fad _) rfl rfl rfl (Nat.le_of_ble_eq_true rfl) dX5_count_113 ⟨by decide, by decide⟩ (fun r8 hqr8 hF => ?_)
        cases hF
        exact hr _ _ dX5_count_116 rfl
      rw [if_neg s9] at hF
      by_cases s11 : x1 = 4
      · rw [if_pos s11] at hF
        refine vv_tableIn (tgt := 117) C 4 s11 dX5_count_47 (by decide +kernel) (by decide +kernel) rfl (by decide) ?_
        refine vv_aload_n C dX5_count_117 0 rfl ?_
        refine vv_callVi (fun r10 => r10) (fun r10 => (wX cy ad fad σ)) C eX_ok h0 [] [] 0 hF (fun r10 hr10 => kX5_countSeals l D cy ad fad σ r10  hr10) gX5_count_X5_countSeals rfl rfl rfl (by decide +kernel) ⟨by decide, by decide⟩ 28 (wX_g28 cy ad fad _) rfl rfl rfl (Nat.le_of_ble_eq_true rfl) dX5_count_118 ⟨by decide, by decide⟩ (fun r10 hqr10 hF => ?_)
        cases hF
        exact hr _ _ dX5_count_121 rfl
      rw [if_neg s11] at hF
      by_cases s13 : x1 = 5
      · rw [if_pos s13] at hF
        refine vv_tableIn (tgt := 122) C 5 s13 dX5_count_47 (by decide +kernel) (by decide +kernel) rfl (by decide) ?_
        refine vv_aload_n C dX5_count_122 0 rfl ?_
        refine vv_callVi (fun r12 => r12) (fun r12 => (wX cy ad fad σ)) C eX_ok h0 [] [] 0 hF (fun r12 hr12 => kX5_countOut l D cy ad fad σ r12  hr12) gX5_count_X5_countOut rfl rfl rfl (by decide +kernel) ⟨by decide, by decide⟩ 28 (wX_g28 cy ad fad _) rfl rfl rfl (Nat.le_of_ble_eq_true rfl) dX5_count_123 ⟨by decide, by decide⟩ (fun r12 hqr12 hF => ?_)
        cases hF
        exact hr _ _ dX5_count_126 rfl
      rw [if_neg s13] at hF
      by_cases s15 : x1 = 6
      · rw [if_pos s15] at hF
        refine vv_tableIn (tgt := 127) C 6 s15 dX5_count_47 (by decide +kernel) (by decide +kernel) rfl (by decide) ?_
        refine vv_aload_n C dX5_count_127 0 rfl ?_
        refine vv_get (v := .ref (ad 24)) C (hi_X5_count_X5) 28 (wX_g28 cy ad fad _) rfl 0 (by decide) (List.mem_of_getElem? (i := 6) rfl) rfl dX5_count_128 ?_
        refine vv_callVi (fun r14 => r14) (fun r14 => (wX cy ad fad σ)) C eX_ok h0 [] [] 0 hF (fun r14 hr14 => kX3_size l D cy ad fad σ r14  hr14) gX5_count_X3_size rfl rfl rfl (by decide +kernel) ⟨by decide, by decide⟩ 24 (wX_g24 cy ad fad _) rfl rfl rfl (Nat.le_of_ble_eq_true rfl) dX5_count_131 ⟨by decide, by decide⟩ (fun r14 hqr14 hF => ?_)
        cases hF
        exact hr _ _ dX5_count_134 rfl
      rw [if_neg s15] at hF
      have ts3 := lv_neT s3 (a := 0) (by decide +kernel)
      have ts4 := lv_neT s4 (a := 1) (by decide +kernel)
      have ts7 := lv_neT s7 (a := 2) (by decide +kernel)
      have ts9 := lv_neT s9 (a := 3) (by decide +kernel)
      have ts11 := lv_neT s11 (a := 4) (by decide +kernel)
      have ts13 := lv_neT s13 (a := 5) (by decide +kernel)
      have ts15 := lv_neT s15 (a := 6) (by decide +kernel)
      refine vv_tableOut (tgt := 135) C dX5_count_47 (by omega) (by decide) ?_
      refine vv_iconst (v := (-1)) C dX5_count_135 (by decide) ?_
      cases hF
      exact hr _ _ dX5_count_136 rfl
    · refine vv_aload_n C dX5_count_36 0 rfl ?_
      refine vv_get (v := .ref (ad 11)) C (hi_X5_count_X5) 28 (wX_g28 cy ad fad _) rfl 6 (by decide) (List.mem_of_getElem? (i := 2) rfl) rfl dX5_count_37 ?_
      refine vv_iload_n C dX5_count_40 1 rfl ?_
      refine vv_bipush (v := 20) C dX5_count_41 (by decide) ?_
      refine vv_isub C dX5_count_43 ?_
      refine vv_iald C 11 0 (wX_g11 cy ad fad _) (tysW_0 cy) hF dX5_count_44 (fun j16 hj16 hF => ?_)
      cases hF
      exact hr _ _ dX5_count_45 rfl
  · refine vv_aload_n C dX5_count_12 0 rfl ?_
    refine vv_get (v := .ref (ad 25)) C (hi_X5_count_X5) 28 (wX_g28 cy ad fad _) rfl 1 (by decide) (List.mem_of_getElem? (i := 1) rfl) rfl dX5_count_13 ?_
    refine vv_iload_n C dX5_count_16 1 rfl ?_
    refine vv_bipush (v := 10) C dX5_count_17 (by decide) ?_
    refine vv_isub C dX5_count_19 ?_
    refine vv_callVi (fun r18 => r18) (fun r18 => (wX cy ad fad σ)) C eX_ok h0 [.int (x1 - 10)] [] 1 hF (fun r18 hr18 => kX2_number l D cy ad fad (x1 - 10) σ r18  hr18) gX5_count_X2_number rfl rfl rfl (by decide +kernel) ⟨by decide, by decide⟩ 25 (wX_g25 cy ad fad _) rfl rfl rfl (Nat.le_of_ble_eq_true rfl) dX5_count_20 ⟨by decide, by decide⟩ (fun r18 hqr18 hF => ?_)
    cases hF
    exact hr _ _ dX5_count_23 rfl
