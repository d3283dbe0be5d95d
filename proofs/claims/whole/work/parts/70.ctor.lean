/-! CONSTRUCTORS: worlds that grow; the frame rule for a callee whose world is the last part of ours -/
theorem fr_l {D : va_G} {a b : va_W} {H : Heap} (h : va_P D vwCl (a ++ b) H) : va_P D vwCl a H := fun k q hk => h k q (by rw [List.getElem?_append_left (List.getElem?_eq_some_iff.mp hk).1]; exact hk)
theorem fr_r {D : va_G} {a b : va_W} {H : Heap} (h : va_P D vwCl (a ++ b) H) : va_P D vwCl b H := fun k q hk => h (a.length + k) q (by rw [List.getElem?_append_right (Nat.le_add_right _ _), Nat.add_sub_cancel_left]; exact hk)
theorem fr_Dl {A : Nat → Prop} {a b : va_W} (h : va_D A (a ++ b)) : va_D A a := by
  refine ⟨fun i j p q hi hj e => ?_, fun k q hk => h.2 k q (by rw [List.getElem?_append_left (List.getElem?_eq_some_iff.mp hk).1]; exact hk)⟩
  exact h.1 i j p q (by rw [List.getElem?_append_left (List.getElem?_eq_some_iff.mp hi).1]; exact hi) (by rw [List.getElem?_append_left (List.getElem?_eq_some_iff.mp hj).1]; exact hj) e
theorem fr_Dr {A : Nat → Prop} {a b : va_W} (h : va_D A (a ++ b)) : va_D A b := by
  have s : ∀ (k : Nat) (q : Nat × va_E), b[k]? = some q → (a ++ b)[a.length + k]? = some q := fun k q hk => by rw [List.getElem?_append_right (Nat.le_add_right _ _), Nat.add_sub_cancel_left]; exact hk
  refine ⟨fun i j p q hi hj e => ?_, fun k q hk => h.2 _ q (s k q hk)⟩
  have := h.1 _ _ p q (s i p hi) (s j q hj) e
  omega
theorem fr_join {D : va_G} {A : Nat → Prop} {wr wc w1 : va_W} {H H1 : Heap} (hP : va_P D vwCl (wr ++ wc) H) (hD : va_D A (wr ++ wc)) (hk : ∀ q : Nat, q < H.size → ¬ va_A wc H.size q → H1[q]? = H[q]?) (hF : ∀ q, va_A wc H.size q → A q) (hP1 : va_P D vwCl w1 H1) (hD1 : va_D (va_A wc H.size) w1) : va_P D vwCl (wr ++ w1) H1 ∧ va_D A (wr ++ w1) := by
  have out : ∀ (k : Nat) (q : Nat × va_E), wr[k]? = some q → q.1 < H.size ∧ ¬ va_A wc H.size q.1 := by
    intro k q hq
    have hl := (fr_l hP k q hq).lt
    refine ⟨hl, fun h => ?_⟩
    rcases h with ⟨k2, x, h⟩ | h
    · have h1 : (wr ++ wc)[k]? = some q := by rw [List.getElem?_append_left (List.getElem?_eq_some_iff.mp hq).1]; exact hq
      have h2 : (wr ++ wc)[wr.length + k2]? = some (q.1, x) := by rw [List.getElem?_append_right (Nat.le_add_right _ _), Nat.add_sub_cancel_left]; exact h
      have := hD.1 _ _ _ _ h1 h2 rfl
      have := (List.getElem?_eq_some_iff.mp hq).1
      omega
    · omega
  refine ⟨va_P.app (fun k q hq => ?_) hP1, va_D.app (fr_Dl hD) (hD1.weaken (fun k q _ h => hF q.1 h)) (fun i j x y hx hy hxy => ?_)⟩
  · obtain ⟨g1, g2⟩ := out k q hq
    exact (fr_l hP k q hq).kept (hk q.1 g1 g2)
  · exact (out i x hx).2 (by rw [hxy]; exact hD1.2 j y hy)
def eI (A : Nat → Prop) (U : State) : Prop := eX A U ∧ va_Nw (.methodLinkNest RX5 25 yX4_init "PeerCircle") U ∧ va_Nw (.methodLinkNest RX5 32 yX1_init "PeerCircle") U ∧ va_Nw (.methodLinkNest RX5 9 yX3_init "PeerCircle") U ∧ va_AO "PeerCircle$Farm" U ∧ va_AOA .int U
theorem va_AOA.moved {t : FieldType} {u U : State} (hvm : u.vm.Alike U.vm) (h : va_AOA t u) : va_AOA t U := by
  obtain ⟨comp, c, k, h1, h2, h3, h4, h5⟩ := arrayOverA_spec h
  obtain ⟨k', hk', he⟩ := hvm.2.2 _ _ h3
  have hi : (U.vm.classes.findIdx? fun (x : Class) => match x.kind with | .array component _ => component == comp | _ => false) = some c := by
    have hb : U.vm.bare = u.vm.bare := by first | exact hvm.bare_eq | exact hvm.bare_eq.symm
    have e1 := va_idx_bare U.vm comp
    have e2 := va_idx_bare u.vm comp
    rw [hb] at e1
    exact e1.symm.trans (e2.trans h2)
  have hkind : k'.kind = .array comp (.array t) := by rw [he]; exact h4
  have f1 : U.vm.findClass (FieldType.array t).toString = some comp := by rw [hvm.findClass]; exact h1
  have f2 : U.vm.findClass ("[" ++ (FieldType.array t).toString) = some c := by rw [hvm.findClass]; exact h5
  unfold va_AOA Cond.before Cond.holds
  simp only [Cond.value]
  rw [f1, Option.bind_some]
  refine (congrArg (fun o : Option Nat => (o.bind (fun c => (U.vm.classes[c]?).map fun (k : Class) => match k.kind with | .array _ ty => decide (ty = FieldType.array t) && decide (U.vm.findClass ("[" ++ (FieldType.array t).toString) = some c) | _ => false) == some true)) hi).trans ?_
  simp [hk', hkind, f2]
theorem eI_ok : ct_E eI := by
  refine ⟨fun A a U g mk h => ?_, fun A B s U h hW hAB hk => ?_⟩
  · obtain ⟨h0, h1, h2, h3, h4, h5⟩ := h
    have hv : U.vm.Alike (U.calling g mk a).vm := Vm.Alike.refl U.vm
    exact ⟨eX_ok.1 _ _ _ _ _ h0, va_Nw.same rfl (u := U) rfl h1, va_Nw.same rfl (u := U) rfl h2, va_Nw.same rfl (u := U) rfl h3, va_AO.moved (u := U) hv h4, va_AOA.moved (u := U) hv h5⟩
  · obtain ⟨h0, h1, h2, h3, h4, h5⟩ := h
    have hv := hW.alike
    exact ⟨eX_ok.2 A B s U h0 hW hAB hk, va_Nw.warmM hW h1, va_Nw.warmM hW h2, va_Nw.warmM hW h3, va_AO.moved hv h4, va_AOA.moved hv h5⟩
/-- a constructor's contract: it makes mc cells of ms slots -/
def ct_C (l : Launch) (D : va_G) (tys : List (ClassId × FieldType)) (E : (Nat → Prop) → State → Prop) (y : MethodName) (ws : List Cond) (rm : Room) (As : List Value) (w : va_W) {S : Type} (wof : S → va_W) (mc ms : Nat) : Prop :=
  ∀ sz : Nat, Met l y ws rm (va_Pc As (ct_Pre D tys E w sz)) (va_Qv (fun (_ : S) => True) (fun u => ct_B D (va_A w sz) (wof u)) (va_A w sz)) mc ms (va_A w sz)
def rt_C (p : Program) (l : Launch) (e : Env) (R : Room) (s : State) (m : MethodId) (args : Array Value) (below : List Frame) (meth : Method) (c : Code) (D : va_G) (A : Nat → Prop) (nL : Nat) (Q : State → Prop) (cc : ByteArray) (mc ms : Nat) {S : Type} (wof : S → va_W) : Prop :=
  ∀ (u : S) (lv : List (Nat × Value)) (pc : Nat), decode cc pc = .ok (.return_, 1) → vv_ p l e R s m args below meth c D A nL Q mc ms (wof u) lv pc []
theorem mt_C {l : Launch} {D : va_G} {tys : List (ClassId × FieldType)} {E : (Nat → Prop) → State → Prop} {y : MethodName} {ws ws' : List Cond} {rm : Room} {cc : ByteArray} {maxL mc ms : Nat} {As : List Value} {w : va_W} {S : Type} {wof : S → va_W} (hy : plainName y.cls = true) (hyn : y.name = "<init>") (hw : ws = Cond.code y cc maxL none :: ws') (hlen : (lg_sl As).length ≤ maxL)
    (body : ∀ (p : Program) (e : Env) (s : State) (m : MethodId) (args : Array Value) (below : List Frame) (meth : Method) (c : Code) (A : Nat → Prop) (Q : State → Prop), vv_X p s m args meth c D tys A maxL cc y.cls ws → meth.name = "<init>" → E A s → rt_C p l e rm s m args below meth c D A maxL Q cc mc ms wof → vv_ p l e rm s m args below meth c D A maxL Q 0 0 w (lv_args 0 As) 0 []) : ct_C l D tys E y ws rm As w wof mc ms := by
  intro sz
  refine Met.ofW (cc := cc) (maxL := maxL) (ret := none) hy hw ?_
  intro p e s m args below meth c s₁ B hml hv
  obtain ⟨rfl, hsz, hP, hK, hD0, hE⟩ := hv
  have hts := atoms_spec (ws := ws) B.pre
  have hown : s.vm.findClass y.cls = some m.cls := findClass_of_methodNamed B.named
  have hin : meth.name = "<init>" := (name_of_methodNamed B.named B.method).1.trans hyn
  subst hsz
  have hD := hD0.self (sz := s.heap.size)
  have hl := lv_entry As (n := maxL) hlen
  rw [lg_entry_eq]
  refine body p e s m As.toArray below meth c (va_A w s.heap.size) _ ⟨⟨B.exec, B.bytes, hml, hown, hts⟩, hK, fun q h => Or.inr h⟩ hin hE ?_ s.heap [] _ hP hD va_S.rf hl
  intro u lv pc hd H locs ls hP1 hD1 hS1 hL1
  exact W.vret B.exec B.bytes B.returns (fun t ht hW => ⟨⟨u, rfl, trivial, by rw [ht]; exact hP1, hD1⟩, hS1.F ht⟩) hS1.2.2 hd B.notSynchronized
section VVE
variable {p : Program} {l : Launch} {e : Env} {R : Room} {s : State} {m : MethodId} {args : Array Value} {below : List Frame} {meth : Method} {c : Code} {D : va_G} {tys : List (ClassId × FieldType)} {A : Nat → Prop} {nL : Nat} {Q : State → Prop} {n k : Nat} {w : va_W} {lv : List (Nat × Value)} {pc : Nat} {st : List Value}
variable {cc : ByteArray} {own : String} {Ts : List Cond} {E : (Nat → Prop) → State → Prop}
theorem vv_perm {w' : va_W} (is : List Nat) (hn : va_nd is = true) (hs : is.map (fun i => w[i]?) = w'.map some) (h : vv_ p l e R s m args below meth c D A nL Q n k w' lv pc st) : vv_ p l e R s m args below meth c D A nL Q n k w lv pc st := by
  intro H locs ls hP hD hS hL
  refine h H locs ls (fun j q hj => ?_) (hD.sub is hn hs) hS hL
  have h1 : (is.map (fun i => w[i]?))[j]? = some (some q) := by rw [hs, List.getElem?_map, hj]; rfl
  rw [List.getElem?_map] at h1
  cases hi : is[j]? with
  | none => rw [hi] at h1; cases h1
  | some i => rw [hi] at h1; exact hP i q (Option.some.inj h1)
theorem vv_swap {a b : va_W} (h : vv_ p l e R s m args below meth c D A nL Q n k (b ++ a) lv pc st) : vv_ p l e R s m args below meth c D A nL Q n k (a ++ b) lv pc st := by
  intro H locs ls hP hD hS hL
  have h1 : va_P D vwCl (([] ++ b) ++ a) H := va_P.swap hP
  have h2 : va_D A (([] ++ b) ++ a) := va_D.swap hD
  exact h H locs ls h1 h2 hS hL
theorem vv_objInit (C : vv_X p s m args meth c D tys A nL cc own Ts) {idx : Nat} {a : Nat} (h1 : Cond.methodLink own idx objectInit ∈ Ts) (h2 : Cond.instanceMethod objectInit ∈ Ts) (h3 : Cond.code objectInit ⟨#[0xb1]⟩ 1 none ∈ Ts) (hf : 1 ≤ R.frames) (hlo : (st.map fun v => v.category).sum + 12 ≤ R.locals) (hd : decode cc pc = .ok (.invokespecial idx, 3)) (h : vv_ p l e R s m args below meth c D A nL Q n k w lv (pc + 3) st) : vv_ p l e R s m args below meth c D A nL Q n k w lv pc (.ref a :: st) := fun H locs ls hP hD hS hL =>
  W.objInit C.1.1 C.1.2.1 C.1.2.2.2.1 (C.1.2.2.2.2 _ h1) (C.1.2.2.2.2 _ h2) (C.1.2.2.2.2 _ h3) rfl (by rw [C.1.2.2.1]; exact hL.1) rfl hd hf (by show 2 * 0 + _ + 12 ≤ _; omega) (W.eq (g2 := F0 m (pc + 3) ls st) rfl (h H locs ls hP hD hS hL))
theorem vv_new (C : vv_X p s m args meth c D tys A nL cc own Ts) {Cn : String} {T : u_T} {N ci idx : Nat} (hin : ∀ w ∈ u_ws Cn T N, w ∈ Ts) (ty0 : Nat → FieldType) (hty : ∀ k, k < N → parseFieldDescriptor (T k).2.2.1 = some (ty0 k)) (h1 : Cond.classLink own idx Cn ∈ Ts) (h2 : Cond.instantiable Cn N ∈ Ts) (h3 : Cond.initialized Cn ∈ Ts) (hc : vwCl[ci]? = some (Cn, T, N)) {fs : List Value} (hfs : ∀ j, j < N → defaultValue (ty0 j) = vp_V fs j) (hn : n + 1 ≤ R.cells) (hk : k + N ≤ R.slots) (hd : decode cc pc = .ok (.new idx, 3)) (h : ∀ q : Nat, vv_ p l e R s m args below meth c D A nL Q (n + 1) (k + N) (w ++ [(q, .inr (ci, fs))]) lv (pc + 3) (.ref q :: st)) : vv_ p l e R s m args below meth c D A nL Q n k w lv pc st := fun H locs ls hP hD hS hL =>
  va_new C.1.1 C.1.2.1 C.1.2.2.2.2 hin ty0 hty C.1.2.2.2.1 (C.1.2.2.2.2 _ h1) (C.1.2.2.2.2 _ h2) (C.1.2.2.2.2 _ h3) C.2.1 hP hD hS C.2.2 hc hfs hn hk hd (fun q H1 hP1 hD1 hS1 => h q H1 locs ls hP1 hD1 hS1 hL)
theorem vv_newa (C : vv_X p s m args meth c D tys A nL cc own Ts) {atype : ArrayType} {ty : FieldType} (hty : newarray.typeOf atype = ty) (h1 : Cond.arrayClass ty ∈ Ts) (t : Nat) {cA : ClassId} (ht : tys[t]? = some (cA, ty)) (hra : ∀ c', va_RA s cA ty → va_RA s c' ty → c' = cA) {cnt : Int32} (N : Nat) (ha : ∀ c' : ClassId, vp_cell c' (N, .inl (fun _ => 0)) = arrV c' N (fun _ => defaultValue ty)) (hc0 : ¬ cnt < 0) (hc : cnt.toNatClampNeg = N) (hby : N * componentBytes ty ≤ 536870912) (hn : n + 1 ≤ R.cells) (hk : k + N ≤ R.slots) (hd : decode cc pc = .ok (.newarray atype, 2)) (h : ∀ q : Nat, vv_ p l e R s m args below meth c D A nL Q (n + 1) (k + N) (w ++ [(q, .inl (cA, N, .inl (fun _ => 0)))]) lv (pc + 2) (.ref q :: st)) : vv_ p l e R s m args below meth c D A nL Q n k w lv pc (.int cnt :: st) := fun H locs ls hP hD hS hL => by
  subst hty
  refine va_newa C.1.1 C.1.2.1 (C.1.2.2.2.2 _ h1) rfl C.2.1 hP hD hS C.2.2 ha hc0 hc hby hn hk hd (fun q c' H1 hK1 hP1 hD1 hS1 => ?_)
  have e : c' = cA := hra c' (C.2.1.2 t _ ht).2 (hK1.2 tys.length _ (by rw [List.getElem?_append_right (Nat.le_refl _), Nat.sub_self]; rfl)).2
  subst e
  exact h q H1 locs ls hP1 hD1 hS1 hL
theorem vv_newq (C : vv_X p s m args meth c D tys A nL cc own Ts) {Cn : String} {idx : Nat} (h1 : Cond.classLink own idx Cn ∈ Ts) (hov : va_AO Cn s) (t : Nat) {cA : ClassId} (ht : tys[t]? = some (cA, .object Cn)) {cnt : Int32} (N : Nat) (hc0 : ¬ cnt < 0) (hc : cnt.toNatClampNeg = N) (hby : N * 4 ≤ 536870912) (hn : n + 1 ≤ R.cells) (hk : k + N ≤ R.slots) (hd : decode cc pc = .ok (.anewarray idx, 3)) (h : ∀ q : Nat, vv_ p l e R s m args below meth c D A nL Q (n + 1) (k + N) (w ++ [(q, .inl (cA, N, .inr (.inr (.inr (.inr (fun _ => none))))))]) lv (pc + 3) (.ref q :: st)) : vv_ p l e R s m args below meth c D A nL Q n k w lv pc (.int cnt :: st) := fun H locs ls hP hD hS hL => by
  refine va_newq C.1.1 C.1.2.1 C.1.2.2.2.1 (C.1.2.2.2.2 _ h1) hov C.2.1 hP hD hS C.2.2 hc0 hc hby hn hk hd (fun q c' H1 hK1 hP1 hD1 hS1 => ?_)
  have e : c' = cA := by
    obtain ⟨-, -, -, -, -, f1⟩ := (C.2.1.2 t _ ht).2
    obtain ⟨-, -, -, -, -, f2⟩ := (hK1.2 tys.length (c', .object Cn) (by rw [List.getElem?_append_right (Nat.le_refl _), Nat.sub_self]; rfl)).2
    exact Option.some.inj (f2.symm.trans f1)
  subst e
  exact h q H1 locs ls hP1 hD1 hS1 hL
/-- new int[N][K]: the outer row, then the inner ones -/
theorem vv_mna (C : vv_X p s m args meth c D tys A nL cc own Ts) {idx : Nat} (h1 : Cond.classLink own idx "[[I" ∈ Ts) (h2 : Cond.arrayClass .int ∈ Ts) (hov : va_AOA .int s) (t u : Nat) {cA cI : ClassId} (ht : tys[t]? = some (cA, .array .int)) (hu : tys[u]? = some (cI, .int)) (hn : n + 11 ≤ R.cells) (hk : k + 110 ≤ R.slots) (hd : decode cc pc = .ok (.multianewarray idx 2, 4))
    (h : ∀ (q : Nat) (r : Nat → Nat), vv_ p l e R s m args below meth c D A nL Q (n + 11) (k + 110) ((w ++ [(q, .inl (cA, 10, .inr (.inr (.inr (.inr (fun i => if i < 10 then some (r i) else none))))))]) ++ (List.range 10).map (fun i => (r i, .inl (cI, 10, .inl (fun _ => 0))))) lv (pc + 4) (.ref q :: st)) : vv_ p l e R s m args below meth c D A nL Q n k w lv pc (.int 10 :: .int 10 :: st) := fun H locs ls hP hD hS hL => by
  have hcI : s.vm.findClass (FieldType.array .int).toString = some cI := (C.2.1.2 u _ hu).2
  refine va_mna (X := w) (L := []) (f := fun _ => .inr (0, [])) (z := (10, .inl (fun _ => 0))) (N' := 10) (K' := 10) C.1.1 C.1.2.1 C.1.2.2.2.1 (C.1.2.2.2.2 _ h1) hov (C.1.2.2.2.2 _ h2) hcI C.2.1 (by rw [show va_pl ([] : List Nat) (fun _ => (.inr (0, []) : va_E)) = [] from rfl, List.append_nil]; exact hP) (by rw [show va_pl ([] : List Nat) (fun _ => (.inr (0, []) : va_E)) = [] from rfl, List.append_nil]; exact hD) hS C.2.2 (by decide) (by decide) (by decide) (by decide) (by decide) (by decide) (by decide) (by decide) (by decide) (by omega) (by omega) (fun c' => ?_) hd (fun q r c' H1 hinj _ hK1 hP1 hD1 hS1 => ?_)
  · show ({ cls := c', slots := Array.replicate 10 (.int 0), vm := .none } : Cell) = _
    rw [arrV_new]
    rfl
  · have e : c' = cA := by
      have f1 := (C.2.1.2 t _ ht).2
      have f2 := (hK1.2 tys.length (c', .array .int) (by rw [List.getElem?_append_right (Nat.le_refl _), Nat.sub_self]; rfl)).2
      exact Option.some.inj (f2.symm.trans f1)
    subst e
    have ew : va_pl ([] ++ (List.range 10).map r) (vr_up (fun _ => (.inr (0, []) : va_E)) ((List.range 10).map r) (.inl (cI, 10, .inl (fun _ => 0)))) = (List.range 10).map (fun i => (r i, (.inl (cI, 10, .inl (fun _ => 0)) : va_E))) := by
      unfold va_pl
      rw [List.nil_append, List.map_map]
      apply List.map_congr_left
      intro a ha
      show (r a, vr_up _ _ _ (r a)) = _
      rw [vr_up_in (List.mem_map.mpr ⟨a, ha, rfl⟩)]
    rw [ew] at hP1 hD1
    exact h q r H1 locs ls hP1 hD1 hS1 hL
/-- a constructor of a class of ours: its world is the last part of ours -/
theorem vv_callI {S : Type} {wof : S → va_W} {wr wc : va_W} (hww : w = wr ++ wc) (C : vv_X p s m args meth c D tys A nL cc own Ts) (hE : ct_E E) (h0 : E A s) {idx : Nat} {y : MethodName} {bytes : ByteArray} {maxL mc ms : Nat} {ws ws' : List Cond} {rm : Room} {b : Nat} (As rest : List Value) (na : Nat) (hM : ct_C l D tys E y ws rm (.ref b :: As) wc wof mc ms) (hg : GoodIn Ts ws) (hw : ws = Cond.code y bytes maxL none :: ws') (hrc : rm.cells = mc) (hrs : rm.slots = ms) (h1 : Cond.initialized y.cls ∈ Ts) (h2 : Cond.methodLink own idx y ∈ Ts) (h3 : Cond.instanceMethod y ∈ Ts) (hyn : y.name = "<init>") (hy : y.cls ≠ "java/lang/invoke/MethodHandle" ∧ y.cls ≠ "java/lang/invoke/VarHandle" ∧ (parseMethodDescriptor y.desc).map (fun d => d.parameters.length) = some na) (hR : rm.frames + 1 ≤ R.frames ∧ 8 + (maxL + 11) + rm.locals ≤ R.locals)
    (hna : As.length = na) (hst : st = As.reverse ++ .ref b :: rest) (hrm : (rest.map fun v => v.category).sum ≤ 8) (hd : decode cc pc = .ok (.invokespecial idx, 3)) (hnk : n + mc ≤ R.cells ∧ k + ms ≤ R.slots)
    (h : ∀ u : S, vv_ p l e R s m args below meth c D A nL Q (n + mc) (k + ms) (wr ++ wof u) lv (pc + 3) rest) : vv_ p l e R s m args below meth c D A nL Q n k w lv pc st := by
  subst hww
  intro H locs ls hP hD hS hL
  subst hst
  have hFc := ct_free C (fr_Dr hD) hS
  refine va_callv (va_runI (As := As) (rest := rest) C.1 (hM H.size) (cwI na C.1.2.2.2.2 hg hw hrc hrs (C.1.2.2.2.2 _ h1) (C.1.2.2.2.2 _ h2) (C.1.2.2.2.2 _ h3) hyn hy hR) ⟨ct_blind (As := .ref b :: As) hE, fun U hU hW => ⟨rfl, ct_pre C hE h0 (fr_r hP) (fr_Dr hD) hS hU hW⟩⟩ rfl hna hL.1 rfl (lv_room hrm) hd hnk) hS (fun q _ h => hFc q h) hFc (fun u t H1 locs1 ht hvm hp hB hz hk1 hS1 => ?_)
  obtain ⟨j1, j2⟩ := fr_join hP hD hk1 hFc (by rw [← ht]; exact hB.1) hB.2
  exact h u H1 locs1 ls j1 j2 hS1 hL
theorem vv_callIN {S : Type} {wof : S → va_W} {wr wc : va_W} (hww : w = wr ++ wc) (C : vv_X p s m args meth c D tys A nL cc own Ts) (hE : ct_E E) (h0 : E A s) {idx : Nat} {host : String} {y : MethodName} {bytes : ByteArray} {maxL mc ms : Nat} {ws ws' : List Cond} {rm : Room} {b : Nat} (As rest : List Value) (na : Nat) (hM : ct_C l D tys E y ws rm (.ref b :: As) wc wof mc ms) (hg : GoodIn Ts ws) (hl : va_Nw (.methodLinkNest own idx y host) s) (hw : ws = Cond.code y bytes maxL none :: ws') (hrc : rm.cells = mc) (hrs : rm.slots = ms) (h1 : Cond.initialized y.cls ∈ Ts) (h3 : Cond.instanceMethod y ∈ Ts) (hyn : y.name = "<init>") (hy : y.cls ≠ "java/lang/invoke/MethodHandle" ∧ y.cls ≠ "java/lang/invoke/VarHandle" ∧ (parseMethodDescriptor y.desc).map (fun d => d.parameters.length) = some na) (hR : rm.frames + 1 ≤ R.frames ∧ 8 + (maxL + 11) + rm.locals ≤ R.locals)
    (hna : As.length = na) (hst : st = As.reverse ++ .ref b :: rest) (hrm : (rest.map fun v => v.category).sum ≤ 8) (hd : decode cc pc = .ok (.invokespecial idx, 3)) (hnk : n + mc ≤ R.cells ∧ k + ms ≤ R.slots)
    (h : ∀ u : S, vv_ p l e R s m args below meth c D A nL Q (n + mc) (k + ms) (wr ++ wof u) lv (pc + 3) rest) : vv_ p l e R s m args below meth c D A nL Q n k w lv pc st := by
  subst hww
  intro H locs ls hP hD hS hL
  subst hst
  have hFc := ct_free C (fr_Dr hD) hS
  refine va_callv (va_runIN (As := As) (rest := rest) C.1 (hM H.size) ⟨va_cnB na C.1.2.2.2.2 hg hw hrc hrs hl (C.1.2.2.2.2 _ h1) hy hR, hyn, C.1.2.2.2.2 _ h3⟩ ⟨ct_blind (As := .ref b :: As) hE, fun U hU hW => ⟨rfl, ct_pre C hE h0 (fr_r hP) (fr_Dr hD) hS hU hW⟩⟩ rfl hna hL.1 rfl (lv_room hrm) hd hnk) hS (fun q _ h => hFc q h) hFc (fun u t H1 locs1 ht hvm hp hB hz hk1 hS1 => ?_)
  obtain ⟨j1, j2⟩ := fr_join hP hD hk1 hFc (by rw [← ht]; exact hB.1) hB.2
  exact h u H1 locs1 ls j1 j2 hS1 hL
end VVE
theorem ra_int {s : State} {a b : ClassId} (h1 : va_RA s a .int) (h2 : va_RA s b .int) : b = a := Option.some.inj (Eq.trans (Eq.symm h2) h1)
theorem ra_boo {s : State} {a b : ClassId} (h1 : va_RA s a .boolean) (h2 : va_RA s b .boolean) : b = a := Option.some.inj (Eq.trans (Eq.symm h2) h1)
theorem ra_byt {s : State} {a b : ClassId} (h1 : va_RA s a .byte) (h2 : va_RA s b .byte) : b = a := Option.some.inj (Eq.trans (Eq.symm h2) h1)
