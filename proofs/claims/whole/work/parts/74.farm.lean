/-! PeerCircle.farm: one cell more -/
def fmF (x1 x2 : Int32) : Nat → Int32 := fun k => if k = 0 then x1 else if k = 1 then x2 else 0
def fX5_farm (x1 : Int32) (x2 : Int32) (σ : St_) : Option (Int32 × St_) := (bn_ (fX5_isBelow x1 8) fun r1 => (if r1 = 0 then some ((-1), σ) else (bn_ (fX5_isBelow x2 4) fun r2 => (if r2 = 0 then some ((-1), σ) else (bn_ (fX5_isBelow (sS σ 5) 10) fun r3 => (if r3 = 0 then some ((-1), σ) else (gd_ (sS σ 5) 10 fun j => (if j = sN σ then some ((sS (uS (uN σ (fmF x1 x2)) 5 ((sS (uN σ (fmF x1 x2)) 5) + 1)) 5) - 1, uS (uN σ (fmF x1 x2)) 5 ((sS (uN σ (fmF x1 x2)) 5) + 1)) else none))))))))
theorem fm_row (fad : Nat → Nat) (σ : St_) (q : Nat) (f : Nat → Int32) : va_up (fun i => if i < sN σ then some (fad i) else none) (sN σ) (some q) = (fun i => if i < sN (uN σ f) then some (va_up fad (sN σ) q i) else none) := by
  funext i
  show (if i = sN σ then some q else if i < sN σ then some (fad i) else none) = (if i < sN σ + 1 then some (if i = sN σ then q else fad i) else none)
  by_cases h1 : i = sN σ
  · rw [if_pos h1, if_pos (by omega), if_pos h1]
  · rw [if_neg h1, if_neg h1]
    by_cases h2 : i < sN σ
    · rw [if_pos h2, if_pos (by omega)]
    · rw [if_neg h2, if_neg (by omega)]
theorem fm_pool (fad : Nat → Nat) (σ : St_) (q : Nat) (x1 x2 : Int32) : wXp fad σ ++ wFi q x1 x2 = wXp (va_up fad (sN σ) q) (uN σ (fmF x1 x2)) := by
  show _ = (List.range (sN σ + 1)).map _
  rw [List.range_succ, List.map_append]
  unfold wXp wFi
  congr 1
  · apply List.map_congr_left
    intro i hi
    have hi' : i < sN σ := List.mem_range.mp hi
    have hne : ¬ i = sN σ := by omega
    have hf : ∀ k, sF (uN σ (fmF x1 x2)) i k = sF σ i k := fun k => if_neg hne
    show (fad i, _) = (va_up fad (sN σ) q i, _)
    rw [show va_up fad (sN σ) q i = fad i from if_neg hne]
    unfold fr_
    simp only [hf]
  · have hf : ∀ k, sF (uN σ (fmF x1 x2)) (sN σ) k = fmF x1 x2 k := fun k => if_pos rfl
    show [(q, _)] = [(va_up fad (sN σ) q (sN σ), _)]
    rw [show va_up fad (sN σ) q (sN σ) = q from if_pos rfl]
    unfold fr_
    simp only [hf]
    rfl
theorem fm_world (cy : Nat → ClassId) (ad fad : Nat → Nat) (σ : St_) (q : Nat) (x1 x2 : Int32) : (wX cy ad fad σ ++ wFi q x1 x2).set 23 (ad 23, .inl (cy 3, 10, .inr (.inr (.inr (.inr (va_up (fun i => if i < sN σ then some (fad i) else none) (sN σ) (some q))))))) = wX cy ad (va_up fad (sN σ) q) (uN σ (fmF x1 x2)) := by
  rw [fm_row fad σ q (fmF x1 x2)]
  have h1 : (wX cy ad fad σ ++ wFi q x1 x2) = wXf cy ad fad σ ++ (wXp fad σ ++ wFi q x1 x2) := by
    unfold wX
    rw [List.append_assoc]
  rw [h1, fm_pool]
  rfl
/-- a contract whose world has other farms' addresses behind it, and one cell more -/
def ct_F (l : Launch) (D : va_G) (cy : Nat → ClassId) (ad : Nat → Nat) (E : (Nat → Prop) → State → Prop) (y : MethodName) (ws : List Cond) (rm : Room) (As : List Value) (w : va_W) (res : Int32 × St_) : Prop :=
  ∀ sz : Nat, Met l y ws rm (va_Pc As (ct_Pre D (tysW cy) E w sz)) (va_Qi (fun (x : Int32) (_ : Nat → Nat) => x = res.1) (fun fad' => ct_B D (va_A w sz) (wX cy ad fad' res.2)) (va_A w sz)) 1 8 (va_A w sz)
theorem vv_astq {p : Program} {l : Launch} {e : Env} {R : Room} {s : State} {m : MethodId} {args : Array Value} {below : List Frame} {meth : Method} {c : Code} {D : va_G} {tys : List (ClassId × FieldType)} {A : Nat → Prop} {nL : Nat} {Q : State → Prop} {n k : Nat} {w : va_W} {lv : List (Nat × Value)} {pc : Nat} {st : List Value} {cc : ByteArray} {own : String} {Ts : List Cond} (C : vv_X p s m args meth c D tys A nL cc own Ts) (q t qk ci : Nat) {a v : Nat} {cA : ClassId} {r : vw_C} {len : Nat} {vs : List Value} {f : Nat → Option Nat} (ha : w[q]? = some (a, .inl (cA, len, .inr (.inr (.inr (.inr f)))))) (ht : tys[t]? = some (cA, .object r.1)) (hv : w[qk]? = some (v, .inr (ci, vs))) (hc : vwCl[ci]? = some r) {i : Int32} (hin : vp_in i len) (hd : decode cc pc = .ok (.aastore, 1)) {w' : va_W} (hw : w.set q (a, .inl (cA, len, .inr (.inr (.inr (.inr (va_up f i.toNatClampNeg (some v))))))) = w') (h : vv_ p l e R s m args below meth c D A nL Q n k w' lv (pc + 1) st) : vv_ p l e R s m args below meth c D A nL Q n k w lv pc (.ref v :: .int i :: .ref a :: st) := fun H locs ls hP hD hS hL => va_astq C.1.1 C.1.2.1 C.2.1 hP hD hS q t qk ci ha ht hv hc hin hd (fun H1 locs1 hP1 hD1 hS1 => h H1 locs1 ls (by rw [hw] at hP1; exact hP1) (by rw [hw] at hD1; exact hD1) hS1 hL)
abbrev rmX5_farm : Room := { frames := 2, cells := 1, slots := 8, locals := 34 }
theorem hi_X5_farm_X5 : ∀ w ∈ wsX50, w ∈ wsX5_farm := fun w h => List.mem_cons_of_mem _ (List.mem_append_left _ (List.mem_append_right _ h))
theorem hi_X5_farm_X0 : ∀ w ∈ wsX00, w ∈ wsX5_farm := fun w h => List.mem_cons_of_mem _ (List.mem_append_right _ h)
set_option maxHeartbeats 4000000 in
set_option maxRecDepth 20000 in
theorem kX5_farm (l : Launch) (D : va_G) (cy : Nat → ClassId) (ad fad : Nat → Nat) (x1 x2 : Int32) (σ : St_) (res : Int32 × St_) (hF : fX5_farm x1 x2 σ = some res) : ct_F l D cy ad eI yX5_farm wsX5_farm rmX5_farm [.ref (ad 28), .int x1, .int x2] (wX cy ad fad σ) res := by
  intro sz
  refine Met.ofW (cc := cX5_farm) (maxL := 3) (ret := some .int) (by decide) rfl ?_
  intro p e s m args below meth c s₁ B hml hv
  obtain ⟨rfl, hsz, hP, hK, hD0, h0⟩ := hv
  have hts := atoms_spec (ws := wsX5_farm) B.pre
  have hown : s.vm.findClass RX5 = some m.cls := findClass_of_methodNamed B.named
  subst hsz
  have hD := hD0.self (sz := s.heap.size)
  have hl := lv_entry [.ref (ad 28), .int x1, .int x2] (n := 3) (Nat.le_of_ble_eq_true rfl)
  rw [lg_entry_eq]
  generalize hAe : va_A (wX cy ad fad σ) s.heap.size = A at hD h0 ⊢
  have C : vv_X p s m [.ref (ad 28), .int x1, .int x2].toArray meth c D (tysW cy) A 3 cX5_farm RX5 wsX5_farm := ⟨⟨B.exec, B.bytes, hml, hown, hts⟩, hK, fun q h => by rw [← hAe]; exact Or.inr h⟩
  have hr : ∀ (fad' : Nat → Nat) (lv : List (Nat × Value)) (pc : Nat), decode cX5_farm pc = .ok (.ireturn, 1) → vv_ p l e rmX5_farm s m [.ref (ad 28), .int x1, .int x2].toArray below meth c D A 3 (MQ below (va_Qi (fun (x : Int32) (_ : Nat → Nat) => x = res.1) (fun fad' => ct_B D A (wX cy ad fad' res.2)) A) [.ref (ad 28), .int x1, .int x2].toArray s 1 8 A) 1 8 (wX cy ad fad' res.2) lv pc [.int res.1] := by
    intro fad' lv pc hd H locs ls hP1 hD1 hS1 hL1
    exact W.iret (v := res.1) B.exec B.bytes B.returns (fun t ht hW => ⟨⟨res.1, fad', rfl, rfl, by rw [ht]; exact hP1, hD1⟩, hS1.F ht⟩) hS1.2.2 hd B.notSynchronized
  refine (?_ : vv_ p l e rmX5_farm s m [.ref (ad 28), .int x1, .int x2].toArray below meth c D A 3 _ 0 0 (wX cy ad fad σ) [(0, .ref (ad 28)), (1, .int x1), (2, .int x2)] 0 []) s.heap [] _ hP hD va_S.rf hl
  unfold fX5_farm at hF
  refine vv_iload_n C dX5_farm_0 1 rfl ?_
  refine vv_bipush (v := 8) C dX5_farm_1 (by decide) ?_
  refine vv_callSi (fun r => r) (fun _ => wX cy ad fad σ) C eX_ok h0.1 [.int x1, .int 8] [] 2 hF (fun r hr => kX5_isBelow l D (tysW cy) eX_ok (wX cy ad fad σ) x1 8 r hr) gX5_farm_X5_isBelow rfl rfl rfl (by decide +kernel) ⟨by decide, by decide⟩ rfl rfl (Nat.le_of_ble_eq_true rfl) dX5_farm_3 ⟨by decide, by decide⟩ (fun r1 hq1 hF => ?_)
  have fin : some ((-1 : Int32), σ) = some res → vv_ p l e rmX5_farm s m [.ref (ad 28), .int x1, .int x2].toArray below meth c D A 3 (MQ below (va_Qi (fun (x : Int32) (_ : Nat → Nat) => x = res.1) (fun fad' => ct_B D A (wX cy ad fad' res.2)) A) [.ref (ad 28), .int x1, .int x2].toArray s 1 8 A) 0 0 (wX cy ad fad σ) [(0, .ref (ad 28)), (1, .int x1), (2, .int x2)] 29 [] := by
    intro hF
    refine vv_iconst (v := (-1)) C dX5_farm_29 (by decide) ?_
    cases hF
    refine vv_wide (n' := 1) (k' := 8) (by decide) (by decide) ?_
    exact hr fad _ _ dX5_farm_30
  refine vv_if_eq (tgt := 29) C dX5_farm_6 (by decide) hF (fun c2 hF => ?_) (fun c2 hF => ?_)
  · exact fin hF
  · refine vv_iload_n C dX5_farm_9 2 rfl ?_
    refine vv_iconst (v := 4) C dX5_farm_10 (by decide) ?_
    refine vv_callSi (fun r => r) (fun _ => wX cy ad fad σ) C eX_ok h0.1 [.int x2, .int 4] [] 2 hF (fun r hr => kX5_isBelow l D (tysW cy) eX_ok (wX cy ad fad σ) x2 4 r hr) gX5_farm_X5_isBelow rfl rfl rfl (by decide +kernel) ⟨by decide, by decide⟩ rfl rfl (Nat.le_of_ble_eq_true rfl) dX5_farm_11 ⟨by decide, by decide⟩ (fun r2 hq2 hF => ?_)
    refine vv_if_eq (tgt := 29) C dX5_farm_14 (by decide) hF (fun c2 hF => ?_) (fun c2 hF => ?_)
    · exact fin hF
    · refine vv_aload_n C dX5_farm_17 0 rfl ?_
      refine vv_get (v := .int (sS σ 5)) C hi_X5_farm_X5 28 (wX_g28 cy ad fad σ) rfl 7 (by decide) (List.mem_of_getElem? (i := 1) rfl) rfl dX5_farm_18 ?_
      refine vv_bipush (v := 10) C dX5_farm_21 (by decide) ?_
      refine vv_callSi (fun r => r) (fun _ => wX cy ad fad σ) C eX_ok h0.1 [.int (sS σ 5), .int 10] [] 2 hF (fun r hr => kX5_isBelow l D (tysW cy) eX_ok (wX cy ad fad σ) (sS σ 5) 10 r hr) gX5_farm_X5_isBelow rfl rfl rfl (by decide +kernel) ⟨by decide, by decide⟩ rfl rfl (Nat.le_of_ble_eq_true rfl) dX5_farm_23 ⟨by decide, by decide⟩ (fun r3 hq3 hF => ?_)
      refine vv_if_ne (tgt := 31) C dX5_farm_26 (by decide) hF (fun c2 hF => ?_) (fun c2 hF => ?_)
      · obtain ⟨hvi, hlt, hF⟩ := gd_some hF
        by_cases hj : (sS σ 5).toNatClampNeg = sN σ
        · rw [if_pos hj] at hF
          refine vv_aload_n C dX5_farm_31 0 rfl ?_
          refine vv_get (v := .ref (ad 23)) C hi_X5_farm_X5 28 (wX_g28 cy ad fad σ) rfl 4 (by decide) (List.mem_of_getElem? (i := 2) rfl) rfl dX5_farm_32 ?_
          refine vv_aload_n C dX5_farm_35 0 rfl ?_
          refine vv_get (v := .int (sS σ 5)) C hi_X5_farm_X5 28 (wX_g28 cy ad fad σ) rfl 7 (by decide) (List.mem_of_getElem? (i := 1) rfl) rfl dX5_farm_36 ?_
          refine vv_new (ci := 0) (fs := [.int 0, .int 0, .int 0, .int 0, .int 0, .int 0, .int 0, .int 0]) C hi_X5_farm_X0 tyX0 tyX0_ok (List.mem_of_getElem? (i := 3) rfl) (List.mem_of_getElem? (i := 4) rfl) (List.mem_of_getElem? (i := 5) rfl) rfl (fun j hj => by rcases (show j = 0 ∨ j = 1 ∨ j = 2 ∨ j = 3 ∨ j = 4 ∨ j = 5 ∨ j = 6 ∨ j = 7 by omega) with rfl | rfl | rfl | rfl | rfl | rfl | rfl | rfl <;> rfl) (by decide) (by decide) dX5_farm_39 (fun q => ?_)
          refine vv_wide (n' := 1) (k' := 8) (by decide) (by decide) ?_
          refine vv_dup C dX5_farm_42 rfl ?_
          refine vv_iload_n C dX5_farm_43 1 rfl ?_
          refine vv_iload_n C dX5_farm_44 2 rfl ?_
          refine vv_callI (wr := wX cy ad fad σ) (wc := [(q, .inr (0, [.int 0, .int 0, .int 0, .int 0, .int 0, .int 0, .int 0, .int 0]))]) rfl C eI_ok h0 [.int x1, .int x2] [.ref q, .int (sS σ 5), .ref (ad 23)] 2 (kX0_init l D cy q x1 x2) gX5_farm_X0_init rfl rfl rfl (List.mem_of_getElem? (i := 5) rfl) (List.mem_of_getElem? (i := 10) rfl) (List.mem_of_getElem? (i := 11) rfl) rfl (by decide +kernel) ⟨by decide, by decide⟩ rfl rfl (Nat.le_of_ble_eq_true rfl) dX5_farm_45 ⟨by decide, by decide⟩ (fun u => ?_)
          refine vv_wide (n' := 1) (k' := 8) (by decide) (by decide) ?_
          have hlen : (wX cy ad fad σ).length = 29 + sN σ := by
            unfold wX wXp
            rw [List.length_append, wXf_len, List.length_map, List.length_range]
          refine vv_astq (w' := wX cy ad (va_up fad (sN σ) q) (uN σ (fmF x1 x2))) (r := (RX0, TX0, 8)) C 23 3 (29 + sN σ) 0 (a := ad 23) (cA := cy 3) (len := 10) (vs := [.int x1, .int x2, .int 0, .int 0, .int 0, .int 0, .int 0, .int 0]) (f := fun i => if i < sN σ then some (fad i) else none) (by rw [List.getElem?_append_left (by rw [hlen]; omega)]; exact wX_g23 cy ad fad σ) (tysW_3 cy) (by rw [List.getElem?_append_right (by rw [hlen]; exact Nat.le_refl _), hlen, Nat.sub_self]; rfl) rfl hvi dX5_farm_48 (by rw [hj]; exact fm_world cy ad fad σ q x1 x2) ?_
          refine vv_aload_n C dX5_farm_49 0 rfl ?_
          refine vv_dup C dX5_farm_50 rfl ?_
          refine vv_get (v := .int (sS (uN σ (fmF x1 x2)) 5)) C hi_X5_farm_X5 28 (wX_g28 cy ad (va_up fad (sN σ) q) _) rfl 7 (by decide) (List.mem_of_getElem? (i := 1) rfl) rfl dX5_farm_51 ?_
          refine vv_iconst (v := 1) C dX5_farm_54 (by decide) ?_
          refine vv_iadd C dX5_farm_55 ?_
          refine vv_put (w' := wX cy ad (va_up fad (sN σ) q) (uS (uN σ (fmF x1 x2)) 5 ((sS (uN σ (fmF x1 x2)) 5) + 1))) C hi_X5_farm_X5 tyX5 tyX5_ok nmX5 28 (wX_g28 cy ad (va_up fad (sN σ) q) _) rfl 7 (by decide) (List.mem_of_getElem? (i := 1) rfl) rfl rfl rfl (Nat.le_of_ble_eq_true rfl) dX5_farm_56 (wX_s5 _ _ _ _ _) ?_
          refine vv_aload_n C dX5_farm_59 0 rfl ?_
          refine vv_get (v := .int (sS (uS (uN σ (fmF x1 x2)) 5 ((sS (uN σ (fmF x1 x2)) 5) + 1)) 5)) C hi_X5_farm_X5 28 (wX_g28 cy ad (va_up fad (sN σ) q) _) rfl 7 (by decide) (List.mem_of_getElem? (i := 1) rfl) rfl dX5_farm_60 ?_
          refine vv_iconst (v := 1) C dX5_farm_63 (by decide) ?_
          refine vv_isub C dX5_farm_64 ?_
          cases hF
          exact hr (va_up fad (sN σ) q) _ _ dX5_farm_65
        · rw [if_neg hj] at hF
          cases hF
      · exact fin hF
