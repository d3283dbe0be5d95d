/-! rows over the constants: static arrays, the text of the letters, System.arraycopy, Math.max and min -/
/-- the one text, at the cell q, its bytes at v -/
def eQ (q v : Nat) (A : Nat → Prop) (U : State) : Prop := va_Z "java/lang/String" "COMPACT_STRINGS" "Z" (.int 1) A U U.heap ∧ vk_S 1 [6] [lsT] (fun _ => q) (fun _ => v) A U U.heap
theorem eQ_ok (q v : Nat) : ct_E (eQ q v) := by
  refine ⟨fun A a U g mk h => ?_, fun A B s U h hW hAB hk => ?_⟩
  · have hv : U.vm.Alike (U.calling g mk a).vm := Vm.Alike.refl U.vm
    exact ⟨va_Z.moved (u := U) hv h.1, vk_S.moved (u := U) hv h.2⟩
  · have hv := hW.alike
    exact ⟨((va_Z.moved hv h.1).kept hk).narrow hAB, ((vk_S.moved hv h.2).kept hk).narrow hAB⟩
theorem eX_Q {A : Nat → Prop} {s : State} (h : eX A s) : ∃ q v : Nat, vk_R "PeerCircle$Rules" 69 "nvwxbg" q s ∧ eQ q v A s := by
  obtain ⟨-, tA, tL, tM, aK, aV, -, -, -, d1, d2, d3⟩ := h
  refine ⟨aK 0, aV 0, d2, d1, fun i hi => ?_, fun i j hi hj _ => by omega⟩
  have h0 : i = 0 := by omega
  subst h0
  exact d3.1 0 hi
section VVD
variable {p : Program} {l : Launch} {e : Env} {R : Room} {s : State} {m : MethodId} {args : Array Value} {below : List Frame} {meth : Method} {c : Code} {D : va_G} {tys : List (ClassId × FieldType)} {A : Nat → Prop} {nL : Nat} {Q : State → Prop} {n k : Nat} {w : va_W} {lv : List (Nat × Value)} {pc : Nat} {st : List Value}
variable {cc : ByteArray} {own : String} {Ts : List Cond} {E : (Nat → Prop) → State → Prop}
theorem vv_gets (C : vv_X p s m args meth c D tys A nL cc own Ts) {Cn nm d : String} {v : Value} {idx : Nat} (hZ : va_Z Cn nm d v A s s.heap) (hm : Cond.fieldLink own idx Cn nm d ∈ Ts) (hd : decode cc pc = .ok (.getstatic idx, 3)) (h : vv_ p l e R s m args below meth c D A nL Q n k w lv (pc + 3) (v :: st)) : vv_ p l e R s m args below meth c D A nL Q n k w lv pc st := fun H locs ls hP hD hS hL => va_gets C.1.1 C.1.2.1 hZ hS C.1.2.2.2.1 (C.1.2.2.2.2 _ hm) (fun _ h9 => h9) hd (h H locs ls hP hD hS hL)
theorem vv_ti {α : Type} {K : Nat → Option α} {res : α} (C : vv_X p s m args meth c D tys A nL cc own Ts) {t len : Nat} {f : Nat → Int32} (hT : va_T .int t len (fun j => .int (f j)) A s s.heap) {i : Int32} (hF : gd_ i len K = some res) (hd : decode cc pc = .ok (.iaload, 1)) (h : ∀ j : Nat, j < len → K j = some res → vv_ p l e R s m args below meth c D A nL Q n k w lv (pc + 1) (.int (f j) :: st)) : vv_ p l e R s m args below meth c D A nL Q n k w lv pc (.int i :: .ref t :: st) := fun H locs ls hP hD hS hL => va_ti C.1.1 C.1.2.1 hT hS (gd_some hF).1 rfl hd (h _ (gd_some hF).2.1 (gd_some hF).2.2 H locs ls hP hD hS hL)
theorem vv_tb {α : Type} {K : Nat → Option α} {res : α} (C : vv_X p s m args meth c D tys A nL cc own Ts) {t len : Nat} {f : Nat → Int32} (hT : va_T .byte t len (fun j => .int (f j)) A s s.heap) {i : Int32} (hF : gd_ i len K = some res) (hd : decode cc pc = .ok (.baload, 1)) (h : ∀ j : Nat, j < len → K j = some res → vv_ p l e R s m args below meth c D A nL Q n k w lv (pc + 1) (.int (f j) :: st)) : vv_ p l e R s m args below meth c D A nL Q n k w lv pc (.int i :: .ref t :: st) := fun H locs ls hP hD hS hL => va_tb C.1.1 C.1.2.1 hT hS (gd_some hF).1 rfl hd (h _ (gd_some hF).2.1 (gd_some hF).2.2 H locs ls hP hD hS hL)
theorem vv_tlen (C : vv_X p s m args meth c D tys A nL cc own Ts) {t len : Nat} {f : Nat → Value} {ty : FieldType} (hT : va_T ty t len f A s s.heap) {v : Int32} (hv : Int32.ofNat len = v) (hd : decode cc pc = .ok (.arraylength, 1)) (h : vv_ p l e R s m args below meth c D A nL Q n k w lv (pc + 1) (.int v :: st)) : vv_ p l e R s m args below meth c D A nL Q n k w lv pc (.ref t :: st) := fun H locs ls hP hD hS hL => va_tlen C.1.1 C.1.2.1 hT hS hv hd (h H locs ls hP hD hS hL)
theorem vv_gf (C : vv_X p s m args meth c D tys A nL cc own Ts) {o nm d : String} {idx q : Nat} {v : Value} (hE : va_OF o nm d v q A s s.heap) (hm : Cond.fieldLink own idx o nm d ∈ Ts) (hd : decode cc pc = .ok (.getfield idx, 3)) (h : vv_ p l e R s m args below meth c D A nL Q n k w lv (pc + 3) (v :: st)) : vv_ p l e R s m args below meth c D A nL Q n k w lv pc (.ref q :: st) := fun H locs ls hP hD hS hL => vk_getf C.1.1 C.1.2.1 hE hS C.1.2.2.2.1 (C.1.2.2.2.2 _ hm) (fun _ h9 => h9) hd (h H locs ls hP hD hS hL)
theorem vv_ldcS (C : vv_X p s m args meth c D tys A nL cc own Ts) {tx : String} {idx q : Nat} (hZ : vk_R own idx tx q s) (hd : decode cc pc = .ok (.ldc idx, 2)) (h : vv_ p l e R s m args below meth c D A nL Q n k w lv (pc + 2) (.ref q :: st)) : vv_ p l e R s m args below meth c D A nL Q n k w lv pc st := fun H locs ls hP hD hS hL => va_ldcS C.1.1 C.1.2.1 C.1.2.2.2.1 hZ hd (h H locs ls hP hD hS hL)
theorem vv_mmax (C : vv_X p s m args meth c D tys A nL cc own Ts) {idx : Nat} {x y : Int32} (h1 : Cond.methodLink own idx Lib.Math.max.name ∈ Ts) (h2 : Cond.static Lib.Math.max.name ∈ Ts) (h3 : Cond.initialized "java/lang/Math" ∈ Ts) (h4 : Cond.code Lib.Math.max.name Lib.Math.max.code 2 (some .int) ∈ Ts) (hf : 1 ≤ R.frames) (hlo : (st.map fun v => v.category).sum + 13 ≤ R.locals) (hnk : n ≤ R.cells ∧ k ≤ R.slots) (hd : decode cc pc = .ok (.invokestatic idx, 3)) (h : vv_ p l e R s m args below meth c D A nL Q n k w lv (pc + 3) (.int (if x < y then y else x) :: st)) : vv_ p l e R s m args below meth c D A nL Q n k w lv pc (.int y :: .int x :: st) := fun H locs ls hP hD hS hL => va_mmax C.1.1 C.1.2.1 (C.1.2.2.1.trans hL.1.symm) C.1.2.2.2.1 (C.1.2.2.2.2 _ h1) (C.1.2.2.2.2 _ h2) (C.1.2.2.2.2 _ h3) (C.1.2.2.2.2 _ h4) hf hlo hnk.1 hnk.2 hd (h H locs ls hP hD hS hL)
theorem vv_mmin (C : vv_X p s m args meth c D tys A nL cc own Ts) {idx : Nat} {x y : Int32} (h1 : Cond.methodLink own idx Lib.Math.min.name ∈ Ts) (h2 : Cond.static Lib.Math.min.name ∈ Ts) (h3 : Cond.initialized "java/lang/Math" ∈ Ts) (h4 : Cond.code Lib.Math.min.name Lib.Math.min.code 2 (some .int) ∈ Ts) (hf : 1 ≤ R.frames) (hlo : (st.map fun v => v.category).sum + 13 ≤ R.locals) (hnk : n ≤ R.cells ∧ k ≤ R.slots) (hd : decode cc pc = .ok (.invokestatic idx, 3)) (h : vv_ p l e R s m args below meth c D A nL Q n k w lv (pc + 3) (.int (if y < x then y else x) :: st)) : vv_ p l e R s m args below meth c D A nL Q n k w lv pc (.int y :: .int x :: st) := fun H locs ls hP hD hS hL => va_mmin C.1.1 C.1.2.1 (C.1.2.2.1.trans hL.1.symm) C.1.2.2.2.1 (C.1.2.2.2.2 _ h1) (C.1.2.2.2.2 _ h2) (C.1.2.2.2.2 _ h3) (C.1.2.2.2.2 _ h4) hf hlo hnk.1 hnk.2 hd (h H locs ls hP hD hS hL)
/-- System.arraycopy from the first place on, within the world -/
theorem vv_copyi (C : vv_X p s m args meth c D tys A nL cc own Ts) {idx : Nat} (h1 : Cond.methodLink own idx arraycopyName ∈ Ts) (h2 : Cond.native arraycopyName ∈ Ts) (h3 : Cond.static arraycopyName ∈ Ts) (h4 : Cond.initialized "java/lang/System" ∈ Ts) (q0 q1 t : Nat) {a0 a1 : Nat} {cA : ClassId} {n0 n1 : Nat} {f g : Nat → Int32} (ha0 : w[q0]? = some (a0, .inl (cA, n0, .inl f))) (ha1 : w[q1]? = some (a1, .inl (cA, n1, .inl g))) (ht : tys[t]? = some (cA, .int)) {cnt : Int32} (N : Nat) (hc0 : ¬ cnt < 0) (hc : cnt.toNatClampNeg = N) (hn0 : N ≤ n0) (hn1 : N ≤ n1) (hf : 1 ≤ R.frames) (hlo : (st.map fun v => v.category).sum + 18 ≤ R.locals) (hd : decode cc pc = .ok (.invokestatic idx, 3)) {w' : va_W} (hw : w.set q1 (a1, .inl (cA, n1, .inl (va_cpy f g 0 0 N))) = w') (h : vv_ p l e R s m args below meth c D A nL Q n k w' lv (pc + 3) st) : vv_ p l e R s m args below meth c D A nL Q n k w lv pc (.int cnt :: .int 0 :: .ref a1 :: .int 0 :: .ref a0 :: st) := fun H locs ls hP hD hS hL => by
  subst hc
  refine va_copyi C.1.1 C.1.2.1 (C.1.2.2.1.trans hL.1.symm) C.1.2.2.2.1 (C.1.2.2.2.2 _ h1) (C.1.2.2.2.2 _ h2) (C.1.2.2.2.2 _ h3) (C.1.2.2.2.2 _ h4) C.2.1 hP hD hS q0 q1 t t ha0 ha1 ht ht rfl (by decide) (by decide) hc0 (by rw [show (0 : Int32).toNatClampNeg = 0 from rfl]; omega) (by rw [show (0 : Int32).toNatClampNeg = 0 from rfl]; omega) (fun i _ => rfl) hf hlo hd (fun H1 locs1 hP1 hD1 hS1 => ?_)
  rw [show (0 : Int32).toNatClampNeg = 0 from rfl, hw] at hP1 hD1
  exact h H1 locs1 ls hP1 hD1 hS1 hL
/-- the same out of a constant's row of ints -/
theorem vv_copyT (C : vv_X p s m args meth c D tys A nL cc own Ts) {idx : Nat} (h1' : Cond.methodLink own idx arraycopyName ∈ Ts) (h2' : Cond.native arraycopyName ∈ Ts) (h3' : Cond.static arraycopyName ∈ Ts) (h4' : Cond.initialized "java/lang/System" ∈ Ts) {b0 n0 : Nat} {f : Nat → Int32} (hX : va_T .int b0 n0 (fun j => .int (f j)) A s s.heap) (q1 t1 : Nat) {a : Nat} {c1 : ClassId} {n1 : Nat} {g : Nat → Int32} (ha1 : w[q1]? = some (a, .inl (c1, n1, .inl g))) (ht1 : tys[t1]? = some (c1, .int)) {cnt : Int32} (N : Nat) (hc0 : ¬ cnt < 0) (hc : cnt.toNatClampNeg = N) (hn0 : N ≤ n0) (hn1 : N ≤ n1) (hf : 1 ≤ R.frames) (hlo : (st.map fun v => v.category).sum + 18 ≤ R.locals) (hd : decode cc pc = .ok (.invokestatic idx, 3)) {w' : va_W} (hw : w.set q1 (a, .inl (c1, n1, .inl (va_cpy f g 0 0 N))) = w') (h : vv_ p l e R s m args below meth c D A nL Q n k w' lv (pc + 3) st) : vv_ p l e R s m args below meth c D A nL Q n k w lv pc (.int cnt :: .int 0 :: .ref a :: .int 0 :: .ref b0 :: st) := by
  intro H locs ls hP hD hS hL T hT X
  obtain ⟨scr, hs1, hs2, hs3, hs4, -, hs5, hs7⟩ := hX
  subst hc
  have z0 : (0 : Int32).toNatClampNeg = 0 := rfl
  have zi : (0 : Int32).toInt = 0 := by decide
  have e18 : nativeFrameWords "java/lang/System" "arraycopy" 5 + 11 = 18 := by decide +kernel
  have nc : cnt.toInt = (cnt.toNatClampNeg : Int) := by
    have hz0 : (0 : Int) ≤ cnt.toInt := by
      have := Int32.not_lt.mp hc0
      simpa using Int32.le_iff_toInt_le.mp this
    show cnt.toInt = ((cnt.toInt.toNat : Nat) : Int)
    omega
  have hcs : H[b0]? = some scr := by rw [hS.2.1 b0 (Array.getElem?_eq_some_iff.mp hs1).1 hs7]; exact hs1
  have hcd : H[a]? = some (vp_cell c1 (n1, .inl g)) := hP q1 _ ha1
  obtain ⟨hs6, k0, hk0, cm0, hkk0⟩ := hs2
  obtain ⟨-, k1, hk1, cm1, hkk1⟩ := (C.2.1.2 t1 _ ht1).1 n1 (fun j => .int (g j))
  obtain ⟨vm', X', step⟩ := X.arraycopy C.1.1 C.1.2.2.2.1 (C.1.2.2.2.2 _ h1') (C.1.2.2.2.2 _ h2') (C.1.2.2.2.2 _ h3') (C.1.2.2.2.2 _ h4') (src := b0) (dst := a) (cs := scr) (cd := vp_cell c1 (n1, .inl g)) (srcPos := 0) (destPos := 0) (n := cnt) (by rw [hT]; exact hcs) (by rw [hT]; exact hcd)
    hs6 (fun _ h => by cases h) hs3 (fun h => by cases h) hk0 hk1 hkk0 hkk1 (by simp [refKind]) (by decide) (by decide) hc0
    (by rw [zi, nc]; omega)
    (by rw [zi, nc]; show ¬ _ > ((arrV c1 n1 (fun j => .int (g j))).slots.size : Int); rw [arrV_size]; omega)
    (fun vm₁ _ i hi => by
      have e : scr.slots.getD ((0 : Int32).toNatClampNeg + i) .null = .int (f ((0 : Int32).toNatClampNeg + i)) := by
        rw [Array.getD_eq_getD_getElem?, hs5 _ (by rw [z0]; omega)]
        rfl
      refine ⟨?_, ?_⟩
      · rw [e]
        rfl
      · rw [e]
        exact trivial)
    (g := F0 m pc ls (.int cnt :: .int 0 :: .ref a :: .int 0 :: .ref b0 :: st)) rfl (by rw [C.1.2.2.1]; exact hL.1) (rest := st) rfl (by rw [C.1.2.1]; exact hd) hf (by show 2 * 0 + _ + _ ≤ _; rw [e18]; omega)
  have e1 : copied scr (vp_cell c1 (n1, .inl g)) 0 0 cnt = vp_cell c1 (n1, .inl (va_cpy f g (0 : Int32).toNatClampNeg (0 : Int32).toNatClampNeg cnt.toNatClampNeg)) := va_copiedX (fun z => .int z) scr c1 f g hs5 (by rw [z0]; omega)
  rw [e1, z0] at X' step
  have hl : a < H.size := (Array.getElem?_eq_some_iff.mp hcd).1
  have hheap : ((T.setVm vm').setCell a (vp_cell c1 (n1, .inl (va_cpy f g 0 0 cnt.toNatClampNeg)))).heap = H.setIfInBounds a (vp_cell c1 (n1, .inl (va_cpy f g 0 0 cnt.toNatClampNeg))) := by rw [← hT]; rfl
  have oq : ∀ q : Nat, q ≠ a → (H.setIfInBounds a (vp_cell c1 (n1, .inl (va_cpy f g 0 0 cnt.toNatClampNeg))))[q]? = H[q]? := fun q hq => by simp [Array.getElem?_setIfInBounds, Ne.symm hq]
  have hP1 := hP.set hD ha1 (e := .inl (c1, n1, .inl (va_cpy f g 0 0 cnt.toNatClampNeg))) (show (H.setIfInBounds a _)[a]? = some _ by simp [Array.getElem?_setIfInBounds, hl]) oq
  have hD1 := hD.set (e := .inl (c1, n1, .inl (va_cpy f g 0 0 cnt.toNatClampNeg))) ha1
  rw [hw] at hP1 hD1
  obtain ⟨t, a1, b1⟩ := h _ _ ls hP1 hD1 ⟨by simp; exact hS.1, fun q g1 g2 => by
      rw [oq q (fun e => g2 (by rw [e]; exact hD.2 q1 _ ha1))]
      exact hS.2.1 q g1 g2, fun q hq => by
      rcases List.mem_append.mp hq with h | h
      · exact hS.2.2 q h
      · obtain ⟨z, -, hz⟩ := List.mem_map.mp h
        rw [← hz]
        exact hD.2 q1 _ ha1⟩ hL _ hheap X'
  exact ⟨t, step t a1, b1⟩
/-- a call on the text -/
theorem vv_callKi {α β : Type} {F : Option α} {K : α → Option β} {res : β} (ans : α → Int32) (wof : α → va_W) (C : vv_X p s m args meth c D tys A nL cc own Ts) {b v : Nat} (h0 : eQ b v A s) {idx : Nat} {y : MethodName} {bytes : ByteArray} {maxL : Nat} {ret : Option FieldType} {ws ws' : List Cond} {rm : Room} (As rest : List Value) (na : Nat) (hF : bn_ F K = some res)
    (hM : ∀ x, F = some x → ct_I l D tys (eQ b v) y ws rm (.ref b :: As) w (ans x) (wof x)) (hg : GoodIn Ts (wsV own idx "java/lang/String" y ws)) (hw : ws = Cond.code y bytes maxL ret :: ws') (hrc : rm.cells = 0) (hrs : rm.slots = 0) (hy : y.cls = "java/lang/String" ∧ y.cls ≠ "java/lang/invoke/MethodHandle" ∧ y.cls ≠ "java/lang/invoke/VarHandle" ∧ (parseMethodDescriptor y.desc).map (fun d => d.parameters.length) = some na) (hR : rm.frames + 1 ≤ R.frames ∧ 8 + (maxL + 11) + rm.locals ≤ R.locals)
    (hna : As.length = na) (hst : st = As.reverse ++ .ref b :: rest) (hrm : (rest.map fun v => v.category).sum ≤ 8) (hd : decode cc pc = .ok (.invokevirtual idx, 3)) (hnk : n ≤ R.cells ∧ k ≤ R.slots)
    (h : ∀ x, F = some x → K x = some res → vv_ p l e R s m args below meth c D A nL Q n k (wof x) lv (pc + 3) (.int (ans x) :: rest)) : vv_ p l e R s m args below meth c D A nL Q n k w lv pc st := by
  intro H locs ls hP hD hS hL
  obtain ⟨x, hx, hK⟩ := bn_some hF
  subst hst
  have hFc := ct_free C hD hS
  have hE := eQ_ok b v
  refine va_calli (va_runV (As := As) (rest := rest) C.1 (hM x hx H.size) (cwV na C.1.2.2.2.2 hg hw hrc hrs hy hR) ⟨ct_blind (As := .ref b :: As) hE, vk_recv (i := 0) h0.2 (by decide) hS, fun U hU hW => ⟨rfl, ct_pre C hE h0 hP hD hS hU hW⟩⟩ rfl hna hL.1 rfl (lv_room hrm) hd hnk) hS (fun q _ h => hFc q h) hFc (fun r u t H1 locs1 ht hvm hp hB hz hk1 hS1 => ?_)
  subst hp
  exact h x hx hK H1 locs1 ls (by rw [← ht]; exact hB.1) (hB.2.weaken (fun _ q _ h9 => hFc q.1 h9)) hS1 hL
end VVD
