/-! rows of the law -/
def b2_ (x : Int32) : Int32 := if x = 0 then 0 else 1
theorem vv_ne0 {p : Program} {l : Launch} {e : Env} {s : State} {m : MethodId} {args : Array Value} {below : List Frame} {meth : Method} {c : Code} {D : va_G} {tys : List (ClassId × FieldType)} {A : Nat → Prop} {R : Room} {nL : Nat} {Q : State → Prop} {n k : Nat} {w : va_W} {lv : List (Nat × Value)} {pc : Nat} {st : List Value} {cc : ByteArray} {own : String} {Ts : List Cond} (C : vv_X p s m args meth c D tys A nL cc own Ts) {x : Int32} (hd1 : decode cc pc = .ok (.ifCond .eq 7, 3)) (hd2 : decode cc (pc + 3) = .ok (.iconst 1, 1)) (hd3 : decode cc (pc + 3 + 1) = .ok (.goto 4, 3)) (hd4 : decode cc (pc + 7) = .ok (.iconst 0, 1)) (h : vv_ p l e R s m args below meth c D A nL Q n k w lv (pc + 8) (.int (b2_ x) :: st)) : vv_ p l e R s m args below meth c D A nL Q n k w lv pc (.int x :: st) := by
  refine vv_if_eq (FA := some ()) (FB := some ()) (res := ()) (tgt := pc + 7) C hd1 (by omega) (by split <;> rfl) (fun hz _ => ?_) (fun hz _ => ?_)
  · refine vv_iconst (v := 0) C hd4 (by decide) ?_
    unfold b2_ at h
    rw [if_pos hz] at h
    exact h
  · refine vv_iconst (v := 1) C hd2 (by decide) ?_
    refine vv_goto (tgt := pc + 8) C hd3 (by omega) ?_
    unfold b2_ at h
    rw [if_neg hz] at h
    exact h
theorem vv_icmp_eqT {p : Program} {l : Launch} {e : Env} {s : State} {m : MethodId} {args : Array Value} {below : List Frame} {meth : Method} {c : Code} {D : va_G} {tys : List (ClassId × FieldType)} {A : Nat → Prop} {R : Room} {nL : Nat} {Q : State → Prop} {n k : Nat} {w : va_W} {lv : List (Nat × Value)} {pc : Nat} {st : List Value} {cc : ByteArray} {own : String} {Ts : List Cond} (C : vv_X p s m args meth c D tys A nL cc own Ts) {x : Int32} {off : Int} {tgt : Nat} (hd : decode cc pc = .ok (.if_icmp .eq off, 3)) (ht : (pc : Int) + off = (tgt : Int)) (h : vv_ p l e R s m args below meth c D A nL Q n k w lv tgt st) : vv_ p l e R s m args below meth c D A nL Q n k w lv pc (.int x :: .int x :: st) := vv_icmp_eq (FA := some ()) (FB := some ()) (res := ()) C hd ht (by split <;> rfl) (fun _ _ => h) (fun hz _ => absurd rfl hz)
theorem vv_sld {p : Program} {l : Launch} {e : Env} {s : State} {m : MethodId} {args : Array Value} {below : List Frame} {meth : Method} {c : Code} {D : va_G} {tys : List (ClassId × FieldType)} {A : Nat → Prop} {R : Room} {nL : Nat} {Q : State → Prop} {n k : Nat} {w : va_W} {lv : List (Nat × Value)} {pc : Nat} {st : List Value} {cc : ByteArray} {own : String} {Ts : List Cond} (C : vv_X p s m args meth c D tys A nL cc own Ts) {b L : Nat} {xs : Nat → Int32} (hX : va_X b L xs s s.heap) (hbl : b < s.heap.size) (hbA : ¬ A b) (hL : L < 2 ^ 31) {i : Int32} (j : Nat) (hj : j < L) (hi : i = nI j) (hd : decode cc pc = .ok (.iaload, 1)) (h : vv_ p l e R s m args below meth c D A nL Q n k w lv (pc + 1) (.int (xs j) :: st)) : vv_ p l e R s m args below meth c D A nL Q n k w lv pc (.int i :: .ref b :: st) := fun H locs ls hP hD hS hL' => by
  subst hi
  refine va_sld C.1.1 C.1.2.1 hX hbl hbA hS (vp_in_nI hj hL) hd ?_
  rw [nI_clamp (by omega)]
  exact h H locs ls hP hD hS hL'
theorem vv_slen {p : Program} {l : Launch} {e : Env} {s : State} {m : MethodId} {args : Array Value} {below : List Frame} {meth : Method} {c : Code} {D : va_G} {tys : List (ClassId × FieldType)} {A : Nat → Prop} {R : Room} {nL : Nat} {Q : State → Prop} {n k : Nat} {w : va_W} {lv : List (Nat × Value)} {pc : Nat} {st : List Value} {cc : ByteArray} {own : String} {Ts : List Cond} (C : vv_X p s m args meth c D tys A nL cc own Ts) {b L : Nat} {xs : Nat → Int32} (hX : va_X b L xs s s.heap) (hbl : b < s.heap.size) (hbA : ¬ A b) (hd : decode cc pc = .ok (.arraylength, 1)) (h : vv_ p l e R s m args below meth c D A nL Q n k w lv (pc + 1) (.int (nI L) :: st)) : vv_ p l e R s m args below meth c D A nL Q n k w lv pc (.ref b :: st) := fun H locs ls hP hD hS hL' => va_slen C.1.1 C.1.2.1 hX hbl hbA hS hd (h H locs ls hP hD hS hL')
/-- a call whose world is the last part of ours -/
theorem vv_callR {p : Program} {l : Launch} {e : Env} {s : State} {m : MethodId} {args : Array Value} {below : List Frame} {meth : Method} {c : Code} {D : va_G} {tys : List (ClassId × FieldType)} {A : Nat → Prop} {R : Room} {nL : Nat} {Q : State → Prop} {n k : Nat} {w : va_W} {lv : List (Nat × Value)} {pc : Nat} {st : List Value} {cc : ByteArray} {own : String} {Ts : List Cond} {E : (Nat → Prop) → State → Prop} {wr wc wd : va_W} (hww : w = wr ++ wc) (C : vv_X p s m args meth c D tys A nL cc own Ts) (hE : ct_E E) (h0 : E A s) {idx : Nat} {Cn : String} {T : u_T} {N ci : Nat} {y : MethodName} {bytes : ByteArray} {maxL : Nat} {ret : Option FieldType} {ws ws' : List Cond} {rm : Room} {b : Nat} {r : Int32} (As rest : List Value) (na : Nat) (hM : ct_I l D tys E y ws rm (.ref b :: As) wc r wd) (hg : GoodIn Ts (wsV own idx Cn y ws)) (hw : ws = Cond.code y bytes maxL ret :: ws') (hrc : rm.cells = 0) (hrs : rm.slots = 0) (hy : y.cls = Cn ∧ y.cls ≠ "java/lang/invoke/MethodHandle" ∧ y.cls ≠ "java/lang/invoke/VarHandle" ∧ (parseMethodDescriptor y.desc).map (fun d => d.parameters.length) = some na) (hR : rm.frames + 1 ≤ R.frames ∧ 8 + (maxL + 11) + rm.locals ≤ R.locals)
    (q0 : Nat) {fs : List Value} (he : wc[q0]? = some (b, .inr (ci, fs))) (hc : vwCl[ci]? = some (Cn, T, N)) (hna : As.length = na) (hst : st = As.reverse ++ .ref b :: rest) (hrm : (rest.map fun v => v.category).sum ≤ 8) (hd : decode cc pc = .ok (.invokevirtual idx, 3)) (hnk : n ≤ R.cells ∧ k ≤ R.slots)
    (h : vv_ p l e R s m args below meth c D A nL Q n k (wr ++ wd) lv (pc + 3) (.int r :: rest)) : vv_ p l e R s m args below meth c D A nL Q n k w lv pc st := by
  subst hww
  intro H locs ls hP hD hS hL
  subst hst
  have hFc := ct_free C (fr_Dr hD) hS
  refine va_calli (va_runV (As := As) (rest := rest) C.1 (hM H.size) (cwV na C.1.2.2.2.2 hg hw hrc hrs hy hR) ⟨ct_blind (As := .ref b :: As) hE, va_recv C.2.1 (fr_r hP) hc he, fun U hU hW => ⟨rfl, ct_pre C hE h0 (fr_r hP) (fr_Dr hD) hS hU hW⟩⟩ rfl hna hL.1 rfl (lv_room hrm) hd hnk) hS (fun q _ h => hFc q h) hFc (fun r1 u t H1 locs1 ht hvm hp hB hz hk1 hS1 => ?_)
  subst hp
  obtain ⟨j1, j2⟩ := fr_join hP hD hk1 hFc (by rw [← ht]; exact hB.1) hB.2
  exact h H1 locs1 ls j1 j2 hS1 hL
theorem vv_callF {p : Program} {l : Launch} {e : Env} {s : State} {m : MethodId} {args : Array Value} {below : List Frame} {meth : Method} {c : Code} {D : va_G} {cy : Nat → ClassId} {ad : Nat → Nat} {A : Nat → Prop} {R : Room} {nL : Nat} {Q : State → Prop} {n k : Nat} {w : va_W} {lv : List (Nat × Value)} {pc : Nat} {st : List Value} {cc : ByteArray} {own : String} {Ts : List Cond} {E : (Nat → Prop) → State → Prop} {wr wc : va_W} (hww : w = wr ++ wc) (C : vv_X p s m args meth c D (tysW cy) A nL cc own Ts) (hE : ct_E E) (h0 : E A s) {idx : Nat} {Cn : String} {T : u_T} {N ci : Nat} {y : MethodName} {bytes : ByteArray} {maxL : Nat} {ret : Option FieldType} {ws ws' : List Cond} {rm : Room} {b : Nat} {res : Int32 × St_} (As rest : List Value) (na : Nat) (hM : ct_F l D cy ad E y ws rm (.ref b :: As) wc res) (hg : GoodIn Ts (wsV own idx Cn y ws)) (hw : ws = Cond.code y bytes maxL ret :: ws') (hrc : rm.cells = 1) (hrs : rm.slots = 8) (hy : y.cls = Cn ∧ y.cls ≠ "java/lang/invoke/MethodHandle" ∧ y.cls ≠ "java/lang/invoke/VarHandle" ∧ (parseMethodDescriptor y.desc).map (fun d => d.parameters.length) = some na) (hR : rm.frames + 1 ≤ R.frames ∧ 8 + (maxL + 11) + rm.locals ≤ R.locals)
    (q0 : Nat) {fs : List Value} (he : wc[q0]? = some (b, .inr (ci, fs))) (hc : vwCl[ci]? = some (Cn, T, N)) (hna : As.length = na) (hst : st = As.reverse ++ .ref b :: rest) (hrm : (rest.map fun v => v.category).sum ≤ 8) (hd : decode cc pc = .ok (.invokevirtual idx, 3)) (hnk : n + 1 ≤ R.cells ∧ k + 8 ≤ R.slots)
    (h : ∀ fad' : Nat → Nat, vv_ p l e R s m args below meth c D A nL Q (n + 1) (k + 8) (wr ++ wX cy ad fad' res.2) lv (pc + 3) (.int res.1 :: rest)) : vv_ p l e R s m args below meth c D A nL Q n k w lv pc st := by
  subst hww
  intro H locs ls hP hD hS hL
  subst hst
  have hFc := ct_free C (fr_Dr hD) hS
  refine va_calli (va_runV (As := As) (rest := rest) C.1 (hM H.size) (cwV na C.1.2.2.2.2 hg hw hrc hrs hy hR) ⟨ct_blind (As := .ref b :: As) hE, va_recv C.2.1 (fr_r hP) hc he, fun U hU hW => ⟨rfl, ct_pre C hE h0 (fr_r hP) (fr_Dr hD) hS hU hW⟩⟩ rfl hna hL.1 rfl (lv_room hrm) hd hnk) hS (fun q _ h => hFc q h) hFc (fun r1 fad' t H1 locs1 ht hvm hp hB hz hk1 hS1 => ?_)
  subst hp
  obtain ⟨j1, j2⟩ := fr_join hP hD hk1 hFc (by rw [← ht]; exact hB.1) hB.2
  exact h fad' H1 locs1 ls j1 j2 hS1 hL
theorem ix_1 (j : Nat) : nI j + 1 = nI (j + 1) := nI_add j 1
theorem ix_2 (j : Nat) : nI j + 2 = nI (j + 2) := nI_add j 2
theorem ix_3 (j : Nat) : nI j + 3 = nI (j + 3) := nI_add j 3
theorem ix_4 (j : Nat) : nI j + 4 = nI (j + 4) := nI_add j 4
theorem ix_5 (j : Nat) : nI j + 5 = nI (j + 5) := nI_add j 5
theorem ix_6 (j : Nat) : nI j + 6 = nI (j + 6) := nI_add j 6
theorem ix_gt {i L : Nat} (hi : i < 100000) (hL : L < 100000) (h : ¬ nI L - 6 < nI i) : i + 6 ≤ L := by
  rcases Nat.lt_or_ge L 6 with q | q
  · exact absurd (by
      have h1 : (nI L - nI 6).toInt = (L : Int) - 6 := pk_sub_toInt (by omega) (by omega)
      have h2 : (nI i).toInt = (i : Int) := nI_toInt (by omega)
      rw [Int32.lt_iff_toInt_lt, h2]
      show (nI L - nI 6).toInt < _
      rw [h1]
      omega) h
  · have e : nI L - 6 = nI (L - 6) := pk_sub (a := L) (b := 6) q
    rw [e, nI_ltI (by omega) (by omega)] at h
    omega
