/-! CONTRACTS in one form: from the world w, the answer is r and the world is w' behind it; calls as rows of vv_ -/
/-- what a contract asks of the tables and of the cells that are nobody's (E), beside its world -/
def ct_Pre (D : va_G) (tys : List (ClassId × FieldType)) (E : (Nat → Prop) → State → Prop) (w : va_W) (sz : Nat) (U : State) : Prop := U.heap.size = sz ∧ va_P D vwCl w U.heap ∧ va_K D vwCl tys U ∧ va_D (fun _ => True) w ∧ E (va_A w sz) U
def ct_B (D : va_G) (A : Nat → Prop) (w' : va_W) (t : State) : Prop := va_P D vwCl w' t.heap ∧ va_D A w'
def ct_I (l : Launch) (D : va_G) (tys : List (ClassId × FieldType)) (E : (Nat → Prop) → State → Prop) (y : MethodName) (ws : List Cond) (rm : Room) (As : List Value) (w : va_W) (r : Int32) (w' : va_W) : Prop :=
  ∀ sz : Nat, Met l y ws rm (va_Pc As (ct_Pre D tys E w sz)) (va_Qi (fun (x : Int32) (_ : Unit) => x = r) (fun _ => ct_B D (va_A w sz) w') (va_A w sz)) 0 0 (va_A w sz)
def ct_V (l : Launch) (D : va_G) (tys : List (ClassId × FieldType)) (E : (Nat → Prop) → State → Prop) (y : MethodName) (ws : List Cond) (rm : Room) (As : List Value) (w : va_W) (w' : va_W) : Prop :=
  ∀ sz : Nat, Met l y ws rm (va_Pc As (ct_Pre D tys E w sz)) (va_Qv (fun (_ : Unit) => True) (fun _ => ct_B D (va_A w sz) w') (va_A w sz)) 0 0 (va_A w sz)
def ct_Q (l : Launch) (D : va_G) (tys : List (ClassId × FieldType)) (E : (Nat → Prop) → State → Prop) (y : MethodName) (ws : List Cond) (rm : Room) (As : List Value) (w : va_W) (r : Option Nat) (w' : va_W) : Prop :=
  ∀ sz : Nat, Met l y ws rm (va_Pc As (ct_Pre D tys E w sz)) (va_Qq (fun (x : Option Nat) (_ : Unit) => x = r) (fun _ => ct_B D (va_A w sz) w') (va_A w sz)) 0 0 (va_A w sz)
/-- E is blind to frames, and goes over to a callee -/
def ct_E (E : (Nat → Prop) → State → Prop) : Prop := (∀ (A : Nat → Prop) (a : Array Value) (U : State) (g : JFrame) (mk : MethodId), E A U → E A (U.calling g mk a)) ∧
  ∀ (A B : Nat → Prop) (s U : State), E A s → s.WarmedH U.vm → (∀ q : Nat, B q → A q) → (∀ q : Nat, q < s.heap.size → ¬ A q → U.heap[q]? = s.heap[q]?) → E B U
theorem ct_blind {D : va_G} {tys : List (ClassId × FieldType)} {E : (Nat → Prop) → State → Prop} {w : va_W} {sz : Nat} {As : List Value} (hE : ct_E E) : FrameBlind (va_Pc As (ct_Pre D tys E w sz)) := fun a U g mk q => by
  obtain ⟨q0, q1, qP, qK, qD, qE⟩ := q
  exact ⟨q0, q1, qP, va_K.moved (u := U) (U := U.calling g mk a) (Vm.Alike.refl U.vm) qK, qD, hE.1 _ _ _ _ _ qE⟩
section CTA
variable {p : Program} {l : Launch} {e : Env} {R : Room} {s : State} {m : MethodId} {args : Array Value} {below : List Frame} {meth : Method} {c : Code} {D : va_G} {tys : List (ClassId × FieldType)} {A : Nat → Prop} {nL : Nat} {Q : State → Prop} {n k : Nat} {w : va_W} {lv : List (Nat × Value)} {pc : Nat} {st : List Value}
variable {cc : ByteArray} {own : String} {Ts : List Cond} {E : (Nat → Prop) → State → Prop}
theorem ct_free {H : Heap} {locs : List Loc} (C : vv_X p s m args meth c D tys A nL cc own Ts) (hD : va_D A w) (hS : va_S A s.heap H locs) : ∀ q : Nat, va_A w H.size q → A q := by
  intro q h
  rcases h with ⟨i, x, h⟩ | h
  · exact hD.2 i _ h
  · exact C.2.2 q (Nat.le_trans hS.1 h)
theorem ct_pre {H : Heap} {locs : List Loc} (C : vv_X p s m args meth c D tys A nL cc own Ts) (hE : ct_E E) (h0 : E A s) (hP : va_P D vwCl w H) (hD : va_D A w) (hS : va_S A s.heap H locs) {U : State} (hU : U.heap = H) (hW : s.WarmedH U.vm) : ct_Pre D tys E w H.size U := by
  refine ⟨by rw [hU], by rw [hU]; exact hP, va_K.moved hW.alike C.2.1, hD.weaken (fun _ _ _ _ => trivial), hE.2 A _ s U h0 hW (fun q h => ct_free C hD hS q h) (fun q h1 h2 => by rw [hU]; exact hS.2.1 q h1 h2)⟩
/-- what a call of an instance method asks: words, room, receiver -/
theorem vv_callVi {α β : Type} {F : Option α} {K : α → Option β} {res : β} (ans : α → Int32) (wof : α → va_W) (C : vv_X p s m args meth c D tys A nL cc own Ts) (hE : ct_E E) (h0 : E A s) {idx : Nat} {Cn : String} {T : u_T} {N ci : Nat} {y : MethodName} {bytes : ByteArray} {maxL : Nat} {ret : Option FieldType} {ws ws' : List Cond} {rm : Room} {b : Nat} (As rest : List Value) (na : Nat) (hF : bn_ F K = some res)
    (hM : ∀ x, F = some x → ct_I l D tys E y ws rm (.ref b :: As) w (ans x) (wof x)) (hg : GoodIn Ts (wsV own idx Cn y ws)) (hw : ws = Cond.code y bytes maxL ret :: ws') (hrc : rm.cells = 0) (hrs : rm.slots = 0) (hy : y.cls = Cn ∧ y.cls ≠ "java/lang/invoke/MethodHandle" ∧ y.cls ≠ "java/lang/invoke/VarHandle" ∧ (parseMethodDescriptor y.desc).map (fun d => d.parameters.length) = some na) (hR : rm.frames + 1 ≤ R.frames ∧ 8 + (maxL + 11) + rm.locals ≤ R.locals)
    (q0 : Nat) {fs : List Value} (he : w[q0]? = some (b, .inr (ci, fs))) (hc : vwCl[ci]? = some (Cn, T, N)) (hna : As.length = na) (hst : st = As.reverse ++ .ref b :: rest) (hrm : (rest.map fun v => v.category).sum ≤ 8) (hd : decode cc pc = .ok (.invokevirtual idx, 3)) (hnk : n ≤ R.cells ∧ k ≤ R.slots)
    (h : ∀ x, F = some x → K x = some res → vv_ p l e R s m args below meth c D A nL Q n k (wof x) lv (pc + 3) (.int (ans x) :: rest)) : vv_ p l e R s m args below meth c D A nL Q n k w lv pc st := by
  intro H locs ls hP hD hS hL
  obtain ⟨x, hx, hK⟩ := bn_some hF
  subst hst
  have hFc := ct_free C hD hS
  refine va_calli (va_runV (As := As) (rest := rest) C.1 (hM x hx H.size) (cwV na C.1.2.2.2.2 hg hw hrc hrs hy hR) ⟨ct_blind (As := .ref b :: As) hE, va_recv C.2.1 hP hc he, fun U hU hW => ⟨rfl, ct_pre C hE h0 hP hD hS hU hW⟩⟩ rfl hna hL.1 rfl (lv_room hrm) hd hnk) hS (fun q _ h => hFc q h) hFc (fun r u t H1 locs1 ht hvm hp hB hz hk1 hS1 => ?_)
  subst hp
  exact h x hx hK H1 locs1 ls (by rw [← ht]; exact hB.1) (hB.2.weaken (fun _ q _ h9 => hFc q.1 h9)) hS1 hL
theorem vv_callVv {α β : Type} {F : Option α} {K : α → Option β} {res : β} (wof : α → va_W) (C : vv_X p s m args meth c D tys A nL cc own Ts) (hE : ct_E E) (h0 : E A s) {idx : Nat} {Cn : String} {T : u_T} {N ci : Nat} {y : MethodName} {bytes : ByteArray} {maxL : Nat} {ret : Option FieldType} {ws ws' : List Cond} {rm : Room} {b : Nat} (As rest : List Value) (na : Nat) (hF : bn_ F K = some res)
    (hM : ∀ x, F = some x → ct_V l D tys E y ws rm (.ref b :: As) w (wof x)) (hg : GoodIn Ts (wsV own idx Cn y ws)) (hw : ws = Cond.code y bytes maxL ret :: ws') (hrc : rm.cells = 0) (hrs : rm.slots = 0) (hy : y.cls = Cn ∧ y.cls ≠ "java/lang/invoke/MethodHandle" ∧ y.cls ≠ "java/lang/invoke/VarHandle" ∧ (parseMethodDescriptor y.desc).map (fun d => d.parameters.length) = some na) (hR : rm.frames + 1 ≤ R.frames ∧ 8 + (maxL + 11) + rm.locals ≤ R.locals)
    (q0 : Nat) {fs : List Value} (he : w[q0]? = some (b, .inr (ci, fs))) (hc : vwCl[ci]? = some (Cn, T, N)) (hna : As.length = na) (hst : st = As.reverse ++ .ref b :: rest) (hrm : (rest.map fun v => v.category).sum ≤ 8) (hd : decode cc pc = .ok (.invokevirtual idx, 3)) (hnk : n ≤ R.cells ∧ k ≤ R.slots)
    (h : ∀ x, F = some x → K x = some res → vv_ p l e R s m args below meth c D A nL Q n k (wof x) lv (pc + 3) rest) : vv_ p l e R s m args below meth c D A nL Q n k w lv pc st := by
  intro H locs ls hP hD hS hL
  obtain ⟨x, hx, hK⟩ := bn_some hF
  subst hst
  have hFc := ct_free C hD hS
  refine va_callv (va_runV (As := As) (rest := rest) C.1 (hM x hx H.size) (cwV na C.1.2.2.2.2 hg hw hrc hrs hy hR) ⟨ct_blind (As := .ref b :: As) hE, va_recv C.2.1 hP hc he, fun U hU hW => ⟨rfl, ct_pre C hE h0 hP hD hS hU hW⟩⟩ rfl hna hL.1 rfl (lv_room hrm) hd hnk) hS (fun q _ h => hFc q h) hFc (fun u t H1 locs1 ht hvm hp hB hz hk1 hS1 => ?_)
  exact h x hx hK H1 locs1 ls (by rw [← ht]; exact hB.1) (hB.2.weaken (fun _ q _ h9 => hFc q.1 h9)) hS1 hL
theorem vv_callVq {α β : Type} {F : Option α} {K : α → Option β} {res : β} (ans : α → Option Nat) (wof : α → va_W) (C : vv_X p s m args meth c D tys A nL cc own Ts) (hE : ct_E E) (h0 : E A s) {idx : Nat} {Cn : String} {T : u_T} {N ci : Nat} {y : MethodName} {bytes : ByteArray} {maxL : Nat} {ret : Option FieldType} {ws ws' : List Cond} {rm : Room} {b : Nat} (As rest : List Value) (na : Nat) (hF : bn_ F K = some res)
    (hM : ∀ x, F = some x → ct_Q l D tys E y ws rm (.ref b :: As) w (ans x) (wof x)) (hg : GoodIn Ts (wsV own idx Cn y ws)) (hw : ws = Cond.code y bytes maxL ret :: ws') (hrc : rm.cells = 0) (hrs : rm.slots = 0) (hy : y.cls = Cn ∧ y.cls ≠ "java/lang/invoke/MethodHandle" ∧ y.cls ≠ "java/lang/invoke/VarHandle" ∧ (parseMethodDescriptor y.desc).map (fun d => d.parameters.length) = some na) (hR : rm.frames + 1 ≤ R.frames ∧ 8 + (maxL + 11) + rm.locals ≤ R.locals)
    (q0 : Nat) {fs : List Value} (he : w[q0]? = some (b, .inr (ci, fs))) (hc : vwCl[ci]? = some (Cn, T, N)) (hna : As.length = na) (hst : st = As.reverse ++ .ref b :: rest) (hrm : (rest.map fun v => v.category).sum ≤ 8) (hd : decode cc pc = .ok (.invokevirtual idx, 3)) (hnk : n ≤ R.cells ∧ k ≤ R.slots)
    (h : ∀ x, F = some x → K x = some res → vv_ p l e R s m args below meth c D A nL Q n k (wof x) lv (pc + 3) (va_rf (ans x) :: rest)) : vv_ p l e R s m args below meth c D A nL Q n k w lv pc st := by
  intro H locs ls hP hD hS hL
  obtain ⟨x, hx, hK⟩ := bn_some hF
  subst hst
  have hFc := ct_free C hD hS
  refine va_callq (va_runV (As := As) (rest := rest) C.1 (hM x hx H.size) (cwV na C.1.2.2.2.2 hg hw hrc hrs hy hR) ⟨ct_blind (As := .ref b :: As) hE, va_recv C.2.1 hP hc he, fun U hU hW => ⟨rfl, ct_pre C hE h0 hP hD hS hU hW⟩⟩ rfl hna hL.1 rfl (lv_room hrm) hd hnk) hS (fun q _ h => hFc q h) hFc (fun r u t H1 locs1 ht hvm hp hB hz hk1 hS1 => ?_)
  subst hp
  exact h x hx hK H1 locs1 ls (by rw [← ht]; exact hB.1) (hB.2.weaken (fun _ q _ h9 => hFc q.1 h9)) hS1 hL
theorem vv_callSi {α β : Type} {F : Option α} {K : α → Option β} {res : β} (ans : α → Int32) (wof : α → va_W) (C : vv_X p s m args meth c D tys A nL cc own Ts) (hE : ct_E E) (h0 : E A s) {idx : Nat} {y : MethodName} {bytes : ByteArray} {maxL : Nat} {ret : Option FieldType} {ws ws' : List Cond} {rm : Room} (As rest : List Value) (na : Nat) (hF : bn_ F K = some res)
    (hM : ∀ x, F = some x → ct_I l D tys E y ws rm As w (ans x) (wof x)) (hg : GoodIn Ts (va_wsS own idx y ws)) (hw : ws = Cond.code y bytes maxL ret :: ws') (hrc : rm.cells = 0) (hrs : rm.slots = 0) (hy : y.cls ≠ "java/lang/invoke/MethodHandle" ∧ y.cls ≠ "java/lang/invoke/VarHandle" ∧ (parseMethodDescriptor y.desc).map (fun d => d.parameters.length) = some na) (hR : rm.frames + 1 ≤ R.frames ∧ 8 + (maxL + 11) + rm.locals ≤ R.locals)
    (hna : As.length = na) (hst : st = As.reverse ++ rest) (hrm : (rest.map fun v => v.category).sum ≤ 8) (hd : decode cc pc = .ok (.invokestatic idx, 3)) (hnk : n ≤ R.cells ∧ k ≤ R.slots)
    (h : ∀ x, F = some x → K x = some res → vv_ p l e R s m args below meth c D A nL Q n k (wof x) lv (pc + 3) (.int (ans x) :: rest)) : vv_ p l e R s m args below meth c D A nL Q n k w lv pc st := by
  intro H locs ls hP hD hS hL
  obtain ⟨x, hx, hK⟩ := bn_some hF
  subst hst
  have hFc := ct_free C hD hS
  refine va_calli (va_runS (As := As) (rest := rest) C.1 (hM x hx H.size) (va_cwS na C.1.2.2.2.2 hg hw hrc hrs hy hR) ⟨ct_blind (As := As) hE, fun U hU hW => ⟨rfl, ct_pre C hE h0 hP hD hS hU hW⟩⟩ rfl hna hL.1 rfl (lv_room hrm) hd hnk) hS (fun q _ h => hFc q h) hFc (fun r u t H1 locs1 ht hvm hp hB hz hk1 hS1 => ?_)
  subst hp
  exact h x hx hK H1 locs1 ls (by rw [← ht]; exact hB.1) (hB.2.weaken (fun _ q _ h9 => hFc q.1 h9)) hS1 hL
theorem vv_callSv {α β : Type} {F : Option α} {K : α → Option β} {res : β} (wof : α → va_W) (C : vv_X p s m args meth c D tys A nL cc own Ts) (hE : ct_E E) (h0 : E A s) {idx : Nat} {y : MethodName} {bytes : ByteArray} {maxL : Nat} {ret : Option FieldType} {ws ws' : List Cond} {rm : Room} (As rest : List Value) (na : Nat) (hF : bn_ F K = some res)
    (hM : ∀ x, F = some x → ct_V l D tys E y ws rm As w (wof x)) (hg : GoodIn Ts (va_wsS own idx y ws)) (hw : ws = Cond.code y bytes maxL ret :: ws') (hrc : rm.cells = 0) (hrs : rm.slots = 0) (hy : y.cls ≠ "java/lang/invoke/MethodHandle" ∧ y.cls ≠ "java/lang/invoke/VarHandle" ∧ (parseMethodDescriptor y.desc).map (fun d => d.parameters.length) = some na) (hR : rm.frames + 1 ≤ R.frames ∧ 8 + (maxL + 11) + rm.locals ≤ R.locals)
    (hna : As.length = na) (hst : st = As.reverse ++ rest) (hrm : (rest.map fun v => v.category).sum ≤ 8) (hd : decode cc pc = .ok (.invokestatic idx, 3)) (hnk : n ≤ R.cells ∧ k ≤ R.slots)
    (h : ∀ x, F = some x → K x = some res → vv_ p l e R s m args below meth c D A nL Q n k (wof x) lv (pc + 3) rest) : vv_ p l e R s m args below meth c D A nL Q n k w lv pc st := by
  intro H locs ls hP hD hS hL
  obtain ⟨x, hx, hK⟩ := bn_some hF
  subst hst
  have hFc := ct_free C hD hS
  refine va_callv (va_runS (As := As) (rest := rest) C.1 (hM x hx H.size) (va_cwS na C.1.2.2.2.2 hg hw hrc hrs hy hR) ⟨ct_blind (As := As) hE, fun U hU hW => ⟨rfl, ct_pre C hE h0 hP hD hS hU hW⟩⟩ rfl hna hL.1 rfl (lv_room hrm) hd hnk) hS (fun q _ h => hFc q h) hFc (fun u t H1 locs1 ht hvm hp hB hz hk1 hS1 => ?_)
  exact h x hx hK H1 locs1 ls (by rw [← ht]; exact hB.1) (hB.2.weaken (fun _ q _ h9 => hFc q.1 h9)) hS1 hL
/-- a private static method of the nest's host -/
theorem vv_callNi {α β : Type} {F : Option α} {K : α → Option β} {res : β} (ans : α → Int32) (wof : α → va_W) (C : vv_X p s m args meth c D tys A nL cc own Ts) (hE : ct_E E) (h0 : E A s) {idx : Nat} {host : String} {y : MethodName} {bytes : ByteArray} {maxL : Nat} {ret : Option FieldType} {ws ws' : List Cond} {rm : Room} (As rest : List Value) (na : Nat) (hF : bn_ F K = some res)
    (hM : ∀ x, F = some x → ct_I l D tys E y ws rm As w (ans x) (wof x)) (hg : GoodIn Ts ws) (hl : va_Nw (.methodLinkNest own idx y host) s) (hi : Cond.initialized y.cls ∈ Ts) (hs : Cond.static y ∈ Ts) (hw : ws = Cond.code y bytes maxL ret :: ws') (hrc : rm.cells = 0) (hrs : rm.slots = 0) (hy : y.cls ≠ "java/lang/invoke/MethodHandle" ∧ y.cls ≠ "java/lang/invoke/VarHandle" ∧ (parseMethodDescriptor y.desc).map (fun d => d.parameters.length) = some na) (hR : rm.frames + 1 ≤ R.frames ∧ 8 + (maxL + 11) + rm.locals ≤ R.locals)
    (hna : As.length = na) (hst : st = As.reverse ++ rest) (hrm : (rest.map fun v => v.category).sum ≤ 8) (hd : decode cc pc = .ok (.invokestatic idx, 3)) (hnk : n ≤ R.cells ∧ k ≤ R.slots)
    (h : ∀ x, F = some x → K x = some res → vv_ p l e R s m args below meth c D A nL Q n k (wof x) lv (pc + 3) (.int (ans x) :: rest)) : vv_ p l e R s m args below meth c D A nL Q n k w lv pc st := by
  intro H locs ls hP hD hS hL
  obtain ⟨x, hx, hK⟩ := bn_some hF
  subst hst
  have hFc := ct_free C hD hS
  refine va_calli (va_runSN (As := As) (rest := rest) C.1 (hM x hx H.size) ⟨va_cnB na C.1.2.2.2.2 hg hw hrc hrs hl (C.1.2.2.2.2 _ hi) hy hR, C.1.2.2.2.2 _ hs, trivial⟩ ⟨ct_blind (As := As) hE, fun U hU hW => ⟨rfl, ct_pre C hE h0 hP hD hS hU hW⟩⟩ rfl hna hL.1 rfl (lv_room hrm) hd hnk) hS (fun q _ h => hFc q h) hFc (fun r u t H1 locs1 ht hvm hp hB hz hk1 hS1 => ?_)
  subst hp
  exact h x hx hK H1 locs1 ls (by rw [← ht]; exact hB.1) (hB.2.weaken (fun _ q _ h9 => hFc q.1 h9)) hS1 hL
end CTA
/-- a method's end: with that answer and that world, at any return -/
def rt_I (p : Program) (l : Launch) (e : Env) (R : Room) (s : State) (m : MethodId) (args : Array Value) (below : List Frame) (meth : Method) (c : Code) (D : va_G) (A : Nat → Prop) (nL : Nat) (Q : State → Prop) (cc : ByteArray) (ty : FieldType) (w : va_W) (r : Int32) : Prop :=
  ∀ (lv : List (Nat × Value)) (pc : Nat), decode cc pc = .ok (.ireturn, 1) → narrow ty (.int r) = .int r → vv_ p l e R s m args below meth c D A nL Q 0 0 w lv pc [.int r]
def rt_V (p : Program) (l : Launch) (e : Env) (R : Room) (s : State) (m : MethodId) (args : Array Value) (below : List Frame) (meth : Method) (c : Code) (D : va_G) (A : Nat → Prop) (nL : Nat) (Q : State → Prop) (cc : ByteArray) (w : va_W) : Prop :=
  ∀ (lv : List (Nat × Value)) (pc : Nat), decode cc pc = .ok (.return_, 1) → vv_ p l e R s m args below meth c D A nL Q 0 0 w lv pc []
def rt_Q (p : Program) (l : Launch) (e : Env) (R : Room) (s : State) (m : MethodId) (args : Array Value) (below : List Frame) (meth : Method) (c : Code) (D : va_G) (A : Nat → Prop) (nL : Nat) (Q : State → Prop) (cc : ByteArray) (w : va_W) (r : Option Nat) : Prop :=
  ∀ (lv : List (Nat × Value)) (pc : Nat), decode cc pc = .ok (.areturn, 1) → vv_ p l e R s m args below meth c D A nL Q 0 0 w lv pc [va_rf r]
theorem mt_I {l : Launch} {D : va_G} {tys : List (ClassId × FieldType)} {E : (Nat → Prop) → State → Prop} {y : MethodName} {ws ws' : List Cond} {rm : Room} {cc : ByteArray} {maxL : Nat} {ty : FieldType} {As : List Value} {w w' : va_W} {r : Int32} (hy : plainName y.cls = true) (hw : ws = Cond.code y cc maxL (some ty) :: ws') (hlen : (lg_sl As).length ≤ maxL)
    (body : ∀ (p : Program) (e : Env) (s : State) (m : MethodId) (args : Array Value) (below : List Frame) (meth : Method) (c : Code) (A : Nat → Prop) (Q : State → Prop), vv_X p s m args meth c D tys A maxL cc y.cls ws → E A s → rt_I p l e rm s m args below meth c D A maxL Q cc ty w' r → vv_ p l e rm s m args below meth c D A maxL Q 0 0 w (lv_args 0 As) 0 []) : ct_I l D tys E y ws rm As w r w' := by
  intro sz
  refine Met.ofW (cc := cc) (maxL := maxL) (ret := some ty) hy hw ?_
  intro p e s m args below meth c s₁ B hml hv
  obtain ⟨rfl, hsz, hP, hK, hD0, hE⟩ := hv
  have hts := atoms_spec (ws := ws) B.pre
  have hown : s.vm.findClass y.cls = some m.cls := findClass_of_methodNamed B.named
  subst hsz
  have hD := hD0.self (sz := s.heap.size)
  have hl := lv_entry As (n := maxL) hlen
  rw [lg_entry_eq]
  refine body p e s m As.toArray below meth c (va_A w s.heap.size) _ ⟨⟨B.exec, B.bytes, hml, hown, hts⟩, hK, fun q h => Or.inr h⟩ hE ?_ s.heap [] _ hP hD va_S.rf hl
  intro lv pc hd hn H locs ls hP1 hD1 hS1 hL1
  exact W.zret (v := r) B.exec B.bytes B.returns hn (fun t ht hW => ⟨⟨r, (), rfl, rfl, by rw [ht]; exact hP1, hD1⟩, hS1.F ht⟩) hS1.2.2 hd B.notSynchronized
theorem mt_V {l : Launch} {D : va_G} {tys : List (ClassId × FieldType)} {E : (Nat → Prop) → State → Prop} {y : MethodName} {ws ws' : List Cond} {rm : Room} {cc : ByteArray} {maxL : Nat} {As : List Value} {w w' : va_W} (hy : plainName y.cls = true) (hw : ws = Cond.code y cc maxL none :: ws') (hlen : (lg_sl As).length ≤ maxL)
    (body : ∀ (p : Program) (e : Env) (s : State) (m : MethodId) (args : Array Value) (below : List Frame) (meth : Method) (c : Code) (A : Nat → Prop) (Q : State → Prop), vv_X p s m args meth c D tys A maxL cc y.cls ws → E A s → rt_V p l e rm s m args below meth c D A maxL Q cc w' → vv_ p l e rm s m args below meth c D A maxL Q 0 0 w (lv_args 0 As) 0 []) : ct_V l D tys E y ws rm As w w' := by
  intro sz
  refine Met.ofW (cc := cc) (maxL := maxL) (ret := none) hy hw ?_
  intro p e s m args below meth c s₁ B hml hv
  obtain ⟨rfl, hsz, hP, hK, hD0, hE⟩ := hv
  have hts := atoms_spec (ws := ws) B.pre
  have hown : s.vm.findClass y.cls = some m.cls := findClass_of_methodNamed B.named
  subst hsz
  have hD := hD0.self (sz := s.heap.size)
  have hl := lv_entry As (n := maxL) hlen
  rw [lg_entry_eq]
  refine body p e s m As.toArray below meth c (va_A w s.heap.size) _ ⟨⟨B.exec, B.bytes, hml, hown, hts⟩, hK, fun q h => Or.inr h⟩ hE ?_ s.heap [] _ hP hD va_S.rf hl
  intro lv pc hd H locs ls hP1 hD1 hS1 hL1
  exact W.vret B.exec B.bytes B.returns (fun t ht hW => ⟨⟨(), rfl, trivial, by rw [ht]; exact hP1, hD1⟩, hS1.F ht⟩) hS1.2.2 hd B.notSynchronized
theorem mt_Q {l : Launch} {D : va_G} {tys : List (ClassId × FieldType)} {E : (Nat → Prop) → State → Prop} {y : MethodName} {ws ws' : List Cond} {rm : Room} {cc : ByteArray} {maxL : Nat} {nm : String} {As : List Value} {w w' : va_W} {r : Option Nat} (hy : plainName y.cls = true) (hw : ws = Cond.code y cc maxL (some (.object nm)) :: ws') (hlen : (lg_sl As).length ≤ maxL)
    (body : ∀ (p : Program) (e : Env) (s : State) (m : MethodId) (args : Array Value) (below : List Frame) (meth : Method) (c : Code) (A : Nat → Prop) (Q : State → Prop), vv_X p s m args meth c D tys A maxL cc y.cls ws → E A s → rt_Q p l e rm s m args below meth c D A maxL Q cc w' r → vv_ p l e rm s m args below meth c D A maxL Q 0 0 w (lv_args 0 As) 0 []) : ct_Q l D tys E y ws rm As w r w' := by
  intro sz
  refine Met.ofW (cc := cc) (maxL := maxL) (ret := some (.object nm)) hy hw ?_
  intro p e s m args below meth c s₁ B hml hv
  obtain ⟨rfl, hsz, hP, hK, hD0, hE⟩ := hv
  have hts := atoms_spec (ws := ws) B.pre
  have hown : s.vm.findClass y.cls = some m.cls := findClass_of_methodNamed B.named
  subst hsz
  have hD := hD0.self (sz := s.heap.size)
  have hl := lv_entry As (n := maxL) hlen
  rw [lg_entry_eq]
  refine body p e s m As.toArray below meth c (va_A w s.heap.size) _ ⟨⟨B.exec, B.bytes, hml, hown, hts⟩, hK, fun q h => Or.inr h⟩ hE ?_ s.heap [] _ hP hD va_S.rf hl
  intro lv pc hd H locs ls hP1 hD1 hS1 hL1
  exact W.aret (v := va_rf r) B.exec B.bytes B.returns (Or.inl ⟨_, rfl⟩) (by cases r with | none => exact Or.inl rfl | some a => exact Or.inr ⟨a, rfl⟩) (fun t ht hW => ⟨⟨r, (), rfl, rfl, by rw [ht]; exact hP1, hD1⟩, hS1.F ht⟩) hS1.2.2 hd B.notSynchronized
/-- no such cells and tables are asked -/
def en_T : (Nat → Prop) → State → Prop := fun _ _ => True
theorem en_ok : ct_E en_T := ⟨fun _ _ _ _ _ _ => trivial, fun _ _ _ _ _ _ _ _ => trivial⟩
