section
/-- an array class over arrays of t is there (the printed names take it under this name) -/
def va_AOA (t : FieldType) (U : State) : Prop := (Cond.arrayOver (.array t)).before #[] U = true
theorem va_AOA.use {t : FieldType} {B : Array Value} {U : State} (h : va_AOA t U) : (Cond.arrayOver (.array t)).before B U = true := h
end
section
/-! ===== BEGIN words of one list among another's, by their places ===== -/
theorem goodIn_r {big : List Cond} (ws : List Cond) (ps : List Nat) (hp : ws = ps.filterMap (fun i => big[i]?)) (h : ws.all goodWord = true) : GoodIn big ws := by
  intro w hw
  have h1 := List.all_eq_true.mp h w hw
  rw [hp] at hw
  obtain ⟨i, -, hi⟩ := List.mem_filterMap.mp hw
  have hm : w ∈ big := by first | exact List.mem_of_getElem? hi | exact List.getElem?_mem hi
  exact ⟨hm, good_of_word h1⟩
theorem goodIn_app {big a b : List Cond} (ha : GoodIn big a) (hb : GoodIn big b) : GoodIn big (a ++ b) := fun w h => (List.mem_append.mp h).elim (ha w) (hb w)
theorem goodIn_ca {big a b : List Cond} {c : Cond} (ha : GoodIn big (c :: a)) (hb : GoodIn big b) : GoodIn big (c :: (a ++ b)) := fun w h => (List.mem_cons.mp h).elim (fun e => ha w (List.mem_cons.mpr (Or.inl e))) (fun h => (List.mem_append.mp h).elim (fun h => ha w (List.mem_cons.mpr (Or.inr h))) (hb w))
theorem goodIn_sub {big ws : List Cond} (hm : ∀ w ∈ ws, w ∈ big) (h : ws.all goodWord = true) : GoodIn big ws := fun w hw => ⟨hm w hw, good_of_word (List.all_eq_true.mp h w hw)⟩
/-! ===== END ===== -/

/-! ===== BEGIN new T[n][m]: the outer array a place, the inner ones among the pooled ===== -/
/-- f, but v at every address of l -/
def vr_up {α : Type} (f : Nat → α) (l : List Nat) (v : α) : Nat → α := fun a => if a ∈ l then v else f a
theorem vr_up_in {α : Type} {f : Nat → α} {l : List Nat} {v : α} {a : Nat} (h : a ∈ l) : vr_up f l v a = v := if_pos h
theorem vr_up_ne {α : Type} {f : Nat → α} {l : List Nat} {v : α} {a : Nat} (h : a ∉ l) : vr_up f l v a = f a := if_neg h
theorem vr_rows {L l : List Nat} {f : Nat → va_E} {e : va_E} (h : ∀ a, a ∈ l → a ∉ L) : va_pl L f ++ l.map (fun a => (a, e)) = va_pl (L ++ l) (vr_up f l e) := by
  unfold va_pl
  rw [List.map_append]
  congr 1
  · apply List.map_congr_left
    intro a ha
    rw [vr_up_ne (fun q => h a q ha)]
  · apply List.map_congr_left
    intro a ha
    rw [vr_up_in ha]
theorem vr_lay {X rows : va_W} {x : Nat × va_E} {pl : va_W} {D : va_G} {cl : List vw_C} {H : Heap} (hP : va_P D cl (((X ++ pl) ++ [x]) ++ rows) H) : va_P D cl ((X ++ [x]) ++ (pl ++ rows)) H := by
  rw [List.append_assoc (X ++ pl)] at hP
  have h := va_P.swap hP
  rw [← List.append_assoc X] at h
  have h2 := va_P.swap h
  rw [List.append_assoc (X ++ [x])] at h2
  exact h2
theorem vr_layD {X rows : va_W} {x : Nat × va_E} {pl : va_W} {A : Nat → Prop} (hD : va_D A (((X ++ pl) ++ [x]) ++ rows)) : va_D A ((X ++ [x]) ++ (pl ++ rows)) := by
  rw [List.append_assoc (X ++ pl)] at hD
  have h := va_D.swap hD
  rw [← List.append_assoc X] at h
  have h2 := va_D.swap h
  rw [List.append_assoc (X ++ [x])] at h2
  exact h2
theorem vr_outer (c : ClassId) (N h0 : Nat) : ∀ i : Nat, Jvm.Free.Multi.outerC c N h0 i = arrV c N (fun j => va_rf (if j < i then some (h0 + 1 + j) else none))
  | 0 => by
    show ({ cls := c, slots := Array.replicate N .null, vm := .none } : Cell) = _
    rw [arrV_new]
    refine congrArg (arrV c N) (funext fun j => ?_)
    simp [va_rf]
  | i + 1 => by
    show (Jvm.Free.Multi.outerC c N h0 i).setSlot i (.ref (h0 + 1 + i)) = _
    rw [vr_outer c N h0 i, arrV_store]
    refine congrArg (arrV c N) (funext fun j => ?_)
    by_cases e : j = i
    · subst e
      simp [updV, va_rf]
    · by_cases h : j < i
      · simp [updV, e, h, Nat.lt_succ_of_lt h]
      · simp [updV, e, h, show ¬ j < i + 1 by omega]
section VGM
variable {p : Program} {l : Launch} {e : Env} {R : Room} {s : State} {m : MethodId} {args : Array Value} {below : List Frame} {meth : Method} {c : Code} {H : Heap} {locs : List Loc} {cells slots : Nat} {Q : State → Prop}
variable {cc : ByteArray} {pc : Nat} {ls : Array Slot} {rest : List Value} {D : va_G} {cl : List vw_C} {A : Nat → Prop} {a : Nat} {tys : List (ClassId × FieldType)} {ws : va_W} {H0 : Heap}
theorem va_mna {X : va_W} {L : List Nat} {f : Nat → va_E} {cc : ByteArray} (hexec : p.tables.exec = Jvm.exec) (hb : c.code = cc) {own : String} {index : Nat} {ty : FieldType} {cy : ClassId} (hown : s.vm.findClass own = some m.cls) (hclink : (Cond.classLink own index ("[" ++ (FieldType.array ty).toString)).before args s = true) (hover : va_AOA ty s) (harr : (Cond.arrayClass ty).before args s = true) (hcy : s.vm.findClass (FieldType.array ty).toString = some cy)
    (hK : va_K D cl tys s) (hP : va_P D cl (X ++ va_pl L f) H) (hD : va_D A (X ++ va_pl L f)) (hS : va_S A H0 H locs) (hA : ∀ q, H0.size ≤ q → A q) {n k : Int32} {N' K' : Nat} {z : vp_A} (hn : ¬ n < 0) (hk : ¬ k < 0) (hN : n.toNatClampNeg = N') (hM : k.toNatClampNeg = K')
    (hb1 : N' * 4 ≤ 536870912) (hb2 : K' * componentBytes ty ≤ 536870912) (hb3 : K' ≤ 536870912) (hdf : fits ty (defaultValue ty) = true) (hdd : (defaultValue ty).isDefault = true) (hcells : cells + (1 + N') ≤ R.cells) (hslots : slots + (N' + N' * K') ≤ R.slots) (hz : ∀ c : ClassId, Jvm.Free.Multi.innerC c K' (defaultValue ty) = vp_cell c z) (hdg : decode cc pc = .ok (.multianewarray index 2, 4))
    (kk : ∀ (q : Nat) (r : Nat → Nat) (cA : ClassId) (H1 : Heap), (∀ i j : Nat, i < N' → j < N' → r i = r j → i = j) → (∀ i : Nat, i < N' → r i ∉ L) → va_K D cl (tys ++ [(cA, .array ty)]) s →
      va_P D cl ((X ++ [(q, .inl (cA, N', .inr (.inr (.inr (.inr (fun i => if i < N' then some (r i) else none))))))]) ++ va_pl (L ++ (List.range N').map r) (vr_up f ((List.range N').map r) (.inl (cy, z)))) H1 → va_D A ((X ++ [(q, .inl (cA, N', .inr (.inr (.inr (.inr (fun i => if i < N' then some (r i) else none))))))]) ++ va_pl (L ++ (List.range N').map r) (vr_up f ((List.range N').map r) (.inl (cy, z)))) → va_S A H0 H1 locs →
      W p l e R s m args below meth c H1 locs (cells + 1 + N') (slots + N' + N' * K') Q (F0 m (pc + 4) ls (.ref q :: rest))) : W p l e R s m args below meth c H locs cells slots Q (F0 m pc ls (.int k :: .int n :: rest)) := by
  subst hN
  subst hM
  intro T hT Xs
  obtain ⟨vm₁, cA, comp, -, fA, fC, hO, -, X', step⟩ := Xs.multianewarray2F hexec hown hclink (va_AOA.use hover) harr (g := F0 m pc ls (.int k :: .int n :: rest)) rfl (by rw [hb]; exact hdg) rfl hn hk hb1 hb2 hb3 hdf hdd hcells hslots
  have ec : some cy = some comp := hcy.symm.trans fC
  cases ec
  generalize hF : Jvm.Free.Multi.fill (T.setVm vm₁) cA cy n.toNatClampNeg k.toNatClampNeg (defaultValue ty) n.toNatClampNeg = F at X' step
  have hTh : (T.setVm vm₁).heap = H := hT
  obtain ⟨f1, f2, -, -⟩ := Jvm.Free.Multi.fill_facts (T.setVm vm₁) cA cy n.toNatClampNeg k.toNatClampNeg (defaultValue ty) n.toNatClampNeg
  rw [hF, hTh] at f1 f2
  have hold : ∀ x : Nat, x < H.size → F.heap[x]? = H[x]? := fun x hx => by
    have := Jvm.Free.Multi.fill_old (T.setVm vm₁) cA cy n.toNatClampNeg k.toNatClampNeg (defaultValue ty) (a := x) (by rw [hTh]; exact hx) n.toNatClampNeg
    rw [hF, hTh] at this
    exact this
  have hrow : ∀ j : Nat, j < n.toNatClampNeg → F.heap[H.size + 1 + j]? = some (vp_cell cy z) := fun j hj => by
    have := Jvm.Free.Multi.fill_inner (T.setVm vm₁) cA cy n.toNatClampNeg k.toNatClampNeg (defaultValue ty) n.toNatClampNeg j hj
    rw [hF, hTh, hz] at this
    exact this
  have hout : Jvm.Free.Multi.outerC cA n.toNatClampNeg H.size n.toNatClampNeg = vp_cell cA (n.toNatClampNeg, .inr (.inr (.inr (.inr (fun i => if i < n.toNatClampNeg then some (H.size + 1 + i) else none))))) := by
    rw [vp_cell_q]
    exact vr_outer cA n.toNatClampNeg H.size n.toNatClampNeg
  rw [hout] at f2
  have hlt : ∀ a, a ∈ L → a < H.size := fun a ha => by
    obtain ⟨k9, hk9⟩ := va_pl_get (X := X) (f := f) ha
    exact (hP k9 _ hk9).lt
  have hnl : ∀ i : Nat, i < n.toNatClampNeg → H.size + 1 + i ∉ L := fun i _ h => by
    have := hlt _ h
    omega
  have hnm : ∀ a, a ∈ (List.range n.toNatClampNeg).map (fun i => H.size + 1 + i) → a ∉ L := fun a ha h => by
    obtain ⟨i, -, rfl⟩ := List.mem_map.mp ha
    have := hlt _ h
    omega
  have hP0 : va_P D cl (X ++ va_pl L f) F.heap := hP.kept (fun k9 x hx => hold x.1 ((hP k9 x hx).lt))
  have hP1 : va_P D cl ((X ++ va_pl L f) ++ [(H.size, .inl (cA, n.toNatClampNeg, .inr (.inr (.inr (.inr (fun i => if i < n.toNatClampNeg then some (H.size + 1 + i) else none))))))]) F.heap := hP0.app (fun k9 x hx => by
    have h0 : k9 < 1 := (List.getElem?_eq_some_iff.mp hx).1
    rw [show k9 = 0 by omega] at hx
    cases hx
    exact f2)
  have hP2 : va_P D cl (((X ++ va_pl L f) ++ [(H.size, .inl (cA, n.toNatClampNeg, .inr (.inr (.inr (.inr (fun i => if i < n.toNatClampNeg then some (H.size + 1 + i) else none))))))]) ++ ((List.range n.toNatClampNeg).map (fun i => H.size + 1 + i)).map (fun a => (a, .inl (cy, z)))) F.heap := hP1.app (fun k9 x hx => by
    obtain ⟨a, ha, rfl⟩ := List.mem_map.mp (List.mem_of_getElem? hx)
    obtain ⟨i, hi, rfl⟩ := List.mem_map.mp ha
    exact hrow i (List.mem_range.mp hi))
  have hD2 : va_D A (((X ++ va_pl L f) ++ [(H.size, .inl (cA, n.toNatClampNeg, .inr (.inr (.inr (.inr (fun i => if i < n.toNatClampNeg then some (H.size + 1 + i) else none))))))]) ++ ((List.range n.toNatClampNeg).map (fun i => H.size + 1 + i)).map (fun a => (a, .inl (cy, z)))) := by
    have hD1 := hD.push (e := .inl (cA, n.toNatClampNeg, .inr (.inr (.inr (.inr (fun i => if i < n.toNatClampNeg then some (H.size + 1 + i) else none)))))) hP rfl (hA _ hS.1)
    generalize hW1 : (X ++ va_pl L f) ++ [(H.size, .inl (cA, n.toNatClampNeg, .inr (.inr (.inr (.inr (fun i => if i < n.toNatClampNeg then some (H.size + 1 + i) else none))))))] = W1 at hD1 hP1 ⊢
    have hle : ∀ (k9 : Nat) (x : Nat × va_E), W1[k9]? = some x → x.1 ≤ H.size := fun k9 x hx => by
      rw [← hW1] at hx
      by_cases hl : k9 < (X ++ va_pl L f).length
      · rw [List.getElem?_append_left hl] at hx
        exact Nat.le_of_lt ((hP k9 x hx).lt)
      · rw [List.getElem?_append_right (by omega)] at hx
        have h0 : k9 - (X ++ va_pl L f).length < 1 := (List.getElem?_eq_some_iff.mp hx).1
        rw [show k9 - (X ++ va_pl L f).length = 0 by omega] at hx
        cases hx
        exact Nat.le_refl _
    have hr : ∀ (k9 : Nat) (x : Nat × va_E), (((List.range n.toNatClampNeg).map (fun i => H.size + 1 + i)).map (fun a => ((a, .inl (cy, z)) : Nat × va_E)))[k9]? = some x → x.1 = H.size + 1 + k9 := fun k9 x hx => by
      rw [List.getElem?_map, List.getElem?_map] at hx
      by_cases h9 : k9 < n.toNatClampNeg
      · rw [List.getElem?_range h9] at hx
        cases hx
        rfl
      · have hn0 : (List.range n.toNatClampNeg)[k9]? = none := List.getElem?_eq_none (by rw [List.length_range]; omega)
        rw [hn0] at hx
        cases hx
    refine ⟨fun i j x y hi hj hxy => ?_, fun k9 x hx => ?_⟩
    · by_cases h1 : i < W1.length <;> by_cases h2 : j < W1.length
      · rw [List.getElem?_append_left h1] at hi
        rw [List.getElem?_append_left h2] at hj
        exact hD1.1 i j x y hi hj hxy
      · rw [List.getElem?_append_left h1] at hi
        rw [List.getElem?_append_right (by omega)] at hj
        have := hle _ _ hi
        have := hr _ _ hj
        omega
      · rw [List.getElem?_append_right (by omega)] at hi
        rw [List.getElem?_append_left h2] at hj
        have := hle _ _ hj
        have := hr _ _ hi
        omega
      · rw [List.getElem?_append_right (by omega)] at hi hj
        have := hr _ _ hi
        have := hr _ _ hj
        omega
    · by_cases h1 : k9 < W1.length
      · rw [List.getElem?_append_left h1] at hx
        exact hD1.2 k9 x hx
      · rw [List.getElem?_append_right (by omega)] at hx
        have := hr _ _ hx
        exact hA _ (by have := hS.1; omega)
  have hAr : ArrOfT s cA (.array ty) := fun N9 z9 => by
    obtain ⟨-, k9, hk9, cm9, hkk9⟩ := (hO 0 0 0).1
    exact ⟨(fun q hq => by cases hq), k9, hk9, cm9, hkk9⟩
  have hK2 : va_K D cl (tys ++ [(cA, .array ty)]) s := ⟨hK.1, fun k9 x hx => by
    by_cases hl : k9 < tys.length
    · rw [List.getElem?_append_left hl] at hx
      exact hK.2 k9 x hx
    · rw [List.getElem?_append_right (by omega)] at hx
      have h0 : k9 - tys.length < 1 := (List.getElem?_eq_some_iff.mp hx).1
      rw [show k9 - tys.length = 0 by omega] at hx
      cases hx
      exact ⟨hAr, fA⟩⟩
  obtain ⟨t, a1, b1⟩ := kk H.size (fun i => H.size + 1 + i) cA F.heap (fun i j _ _ h => by have h9 : H.size + 1 + i = H.size + 1 + j := h; omega) hnl hK2 (by rw [← vr_rows hnm]; exact vr_lay hP2) (by rw [← vr_rows hnm]; exact vr_layD hD2) ⟨by rw [f1]; have := hS.1; omega, fun x h1 h2 => (hold x (Nat.lt_of_lt_of_le h1 hS.1)).trans (hS.2.1 x h1 h2), hS.2.2⟩ F rfl X'
  refine ⟨t, step t ?_, b1⟩
  have e : T.heap.size = H.size := by rw [hT]
  rw [e]
  exact a1
end VGM
/-! ===== END ===== -/

/-! ===== BEGIN printed: names, fields, word lists, decode rows ===== -/
def RX0 : String := "PeerCircle$Farm"
def TX0 : u_T := fun k => match k with
  | 0 => ("PeerCircle$Farm", "family", "I", true)
  | 1 => ("PeerCircle$Farm", "group", "I", true)
  | 2 => ("PeerCircle$Farm", "hasSeal", "Z", false)
  | 3 => ("PeerCircle$Farm", "step", "I", false)
  | 4 => ("PeerCircle$Farm", "yearsOut", "I", false)
  | 5 => ("PeerCircle$Farm", "soldEver", "I", false)
  | 6 => ("PeerCircle$Farm", "soldThisYear", "I", false)
  | _ => ("PeerCircle$Farm", "doubtful", "I", false)
def tyX0 : Nat → FieldType := fun k => match k with
  | 0 => .int
  | 1 => .int
  | 2 => .boolean
  | 3 => .int
  | 4 => .int
  | 5 => .int
  | 6 => .int
  | _ => .int
abbrev wsX00 : List Cond := u_ws RX0 TX0 8
theorem nmX0 : ∀ a, a < 8 → ∀ b, b < 8 → a ≠ b → (TX0 a).2.1 ≠ (TX0 b).2.1 := by decide +kernel
theorem tyX0_ok : ∀ k, k < 8 → parseFieldDescriptor (TX0 k).2.2.1 = some (tyX0 k) := by decide +kernel
abbrev cX0_init : ByteArray := prog_2_method_1_code
def yX0_init : MethodName := ⟨RX0, "<init>", "(II)V"⟩
abbrev cX0_isOut : ByteArray := prog_2_method_2_code
def yX0_isOut : MethodName := ⟨RX0, "isOut", "()Z"⟩
abbrev cX0_sellBaskets : ByteArray := prog_2_method_3_code
def yX0_sellBaskets : MethodName := ⟨RX0, "sellBaskets", "(I)V"⟩
abbrev cX0_countDoubtful : ByteArray := prog_2_method_4_code
def yX0_countDoubtful : MethodName := ⟨RX0, "countDoubtful", "(Z)V"⟩
abbrev cX0_goOn : ByteArray := prog_2_method_5_code
def yX0_goOn : MethodName := ⟨RX0, "goOn", "(IILPeerCircle$Rules;)V"⟩
abbrev cX0_changeStep : ByteArray := prog_2_method_6_code
def yX0_changeStep : MethodName := ⟨RX0, "changeStep", "(ILPeerCircle$Rules;)V"⟩
def RX1 : String := "PeerCircle$Planner"
def TX1 : u_T := fun k => match k with
  | 0 => ("PeerCircle$Planner", "ways", "[I", true)
  | 1 => ("PeerCircle$Planner", "cameFrom", "[I", true)
  | 2 => ("PeerCircle$Planner", "queue", "[I", true)
  | 3 => ("PeerCircle$Planner", "visitors", "[I", true)
  | 4 => ("PeerCircle$Planner", "visitsMade", "[I", true)
  | 5 => ("PeerCircle$Planner", "mostVisitors", "I", false)
  | _ => ("PeerCircle$Planner", "mostVisits", "I", false)
def tyX1 : Nat → FieldType := fun k => match k with
  | 0 => .array .int
  | 1 => .array .int
  | 2 => .array .int
  | 3 => .array .int
  | 4 => .array .int
  | 5 => .int
  | _ => .int
abbrev wsX10 : List Cond := u_ws RX1 TX1 7
theorem nmX1 : ∀ a, a < 7 → ∀ b, b < 7 → a ≠ b → (TX1 a).2.1 ≠ (TX1 b).2.1 := by decide +kernel
theorem tyX1_ok : ∀ k, k < 7 → parseFieldDescriptor (TX1 k).2.2.1 = some (tyX1 k) := by decide +kernel
abbrev cX1_init : ByteArray := prog_3_method_1_code
def yX1_init : MethodName := ⟨RX1, "<init>", "()V"⟩
abbrev cX1_visitorsOf : ByteArray := prog_3_method_2_code
def yX1_visitorsOf : MethodName := ⟨RX1, "visitorsOf", "(I)I"⟩
abbrev cX1_begin : ByteArray := prog_3_method_3_code
def yX1_begin : MethodName := ⟨RX1, "begin", "(II)V"⟩
abbrev cX1_allow : ByteArray := prog_3_method_4_code
def yX1_allow : MethodName := ⟨RX1, "allow", "(II)V"⟩
abbrev cX1_planMost : ByteArray := prog_3_method_5_code
def yX1_planMost : MethodName := ⟨RX1, "planMost", "()V"⟩
abbrev cX1_planLeastRow : ByteArray := prog_3_method_6_code
def yX1_planLeastRow : MethodName := ⟨RX1, "planLeastRow", "(I)V"⟩
abbrev cX1_placeVisited : ByteArray := prog_3_method_7_code
def yX1_placeVisited : MethodName := ⟨RX1, "placeVisited", "(I)I"⟩
abbrev cX1_setWay : ByteArray := prog_3_method_8_code
def yX1_setWay : MethodName := ⟨RX1, "setWay", "(IIZ)V"⟩
abbrev cX1_openByLimits : ByteArray := prog_3_method_9_code
def yX1_openByLimits : MethodName := ⟨RX1, "openByLimits", "(II)V"⟩
abbrev cX1_addVisit : ByteArray := prog_3_method_10_code
def yX1_addVisit : MethodName := ⟨RX1, "addVisit", "(II)V"⟩
abbrev cX1_dropVisit : ByteArray := prog_3_method_11_code
def yX1_dropVisit : MethodName := ⟨RX1, "dropVisit", "(II)V"⟩
abbrev cX1_findPath : ByteArray := prog_3_method_12_code
def yX1_findPath : MethodName := ⟨RX1, "findPath", "(II)Z"⟩
abbrev cX1_lowestBit : ByteArray := prog_3_method_13_code
def yX1_lowestBit : MethodName := ⟨RX1, "lowestBit", "(I)I"⟩
abbrev cX1_followPath : ByteArray := prog_3_method_14_code
def yX1_followPath : MethodName := ⟨RX1, "followPath", "(II)V"⟩
abbrev cX1_moveVisit : ByteArray := prog_3_method_15_code
def yX1_moveVisit : MethodName := ⟨RX1, "moveVisit", "(II)V"⟩
def RX2 : String := "PeerCircle$Rules"
def TX2 : u_T := fun k => match k with
  | 0 => ("PeerCircle$Rules", "numbers", "[I", true)
  | 1 => ("PeerCircle$Rules", "draft", "[I", true)
  | _ => ("PeerCircle$Rules", "place", "I", false)
def tyX2 : Nat → FieldType := fun k => match k with
  | 0 => .array .int
  | 1 => .array .int
  | _ => .int
abbrev wsX20 : List Cond := u_ws RX2 TX2 3
theorem nmX2 : ∀ a, a < 3 → ∀ b, b < 3 → a ≠ b → (TX2 a).2.1 ≠ (TX2 b).2.1 := by decide +kernel
theorem tyX2_ok : ∀ k, k < 3 → parseFieldDescriptor (TX2 k).2.2.1 = some (tyX2 k) := by decide +kernel
abbrev cX2_init : ByteArray := prog_4_method_1_code
def yX2_init : MethodName := ⟨RX2, "<init>", "()V"⟩
abbrev cX2_number : ByteArray := prog_4_method_2_code
def yX2_number : MethodName := ⟨RX2, "number", "(I)I"⟩
abbrev cX2_read : ByteArray := prog_4_method_3_code
def yX2_read : MethodName := ⟨RX2, "read", "(LPeerCircle$Tape;)I"⟩
abbrev cX2_readClause : ByteArray := prog_4_method_4_code
def yX2_readClause : MethodName := ⟨RX2, "readClause", "(LPeerCircle$Tape;)I"⟩
abbrev cX2_readDigits : ByteArray := prog_4_method_5_code
def yX2_readDigits : MethodName := ⟨RX2, "readDigits", "(LPeerCircle$Tape;)I"⟩
abbrev cX2_kindOf : ByteArray := prog_4_method_6_code
def yX2_kindOf : MethodName := ⟨RX2, "kindOf", "(I)I"⟩
abbrev cX2_faultAt : ByteArray := prog_4_method_7_code
def yX2_faultAt : MethodName := ⟨RX2, "faultAt", "(II)I"⟩
def RX3 : String := "PeerCircle$Tape"
def TX3 : u_T := fun k => match k with
  | 0 => ("PeerCircle$Tape", "bytes", "[I", true)
  | _ => ("PeerCircle$Tape", "size", "I", false)
def tyX3 : Nat → FieldType := fun k => match k with
  | 0 => .array .int
  | _ => .int
abbrev wsX30 : List Cond := u_ws RX3 TX3 2
theorem nmX3 : ∀ a, a < 2 → ∀ b, b < 2 → a ≠ b → (TX3 a).2.1 ≠ (TX3 b).2.1 := by decide +kernel
theorem tyX3_ok : ∀ k, k < 2 → parseFieldDescriptor (TX3 k).2.2.1 = some (tyX3 k) := by decide +kernel
abbrev cX3_init : ByteArray := prog_5_method_1_code
def yX3_init : MethodName := ⟨RX3, "<init>", "()V"⟩
abbrev cX3_size : ByteArray := prog_5_method_2_code
def yX3_size : MethodName := ⟨RX3, "size", "()I"⟩
abbrev cX3_takesFeed : ByteArray := prog_5_method_3_code
def yX3_takesFeed : MethodName := ⟨RX3, "takesFeed", "()Z"⟩
abbrev cX3_put : ByteArray := prog_5_method_4_code
def yX3_put : MethodName := ⟨RX3, "put", "(I)V"⟩
abbrev cX3_cutTo : ByteArray := prog_5_method_5_code
def yX3_cutTo : MethodName := ⟨RX3, "cutTo", "(I)V"⟩
abbrev cX3_at : ByteArray := prog_5_method_6_code
def yX3_at : MethodName := ⟨RX3, "at", "(I)I"⟩
abbrev cX3_hasDigitAt : ByteArray := prog_5_method_7_code
def yX3_hasDigitAt : MethodName := ⟨RX3, "hasDigitAt", "(I)Z"⟩
def RX4 : String := "PeerCircle$Visits"
def TX4 : u_T := fun k => match k with
  | 0 => ("PeerCircle$Visits", "visitors", "[I", true)
  | 1 => ("PeerCircle$Visits", "visitorsBefore", "[I", true)
  | 2 => ("PeerCircle$Visits", "told", "[[I", true)
  | _ => ("PeerCircle$Visits", "laid", "Z", false)
def tyX4 : Nat → FieldType := fun k => match k with
  | 0 => .array .int
  | 1 => .array .int
  | 2 => .array (.array .int)
  | _ => .boolean
abbrev wsX40 : List Cond := u_ws RX4 TX4 4
theorem nmX4 : ∀ a, a < 4 → ∀ b, b < 4 → a ≠ b → (TX4 a).2.1 ≠ (TX4 b).2.1 := by decide +kernel
theorem tyX4_ok : ∀ k, k < 4 → parseFieldDescriptor (TX4 k).2.2.1 = some (tyX4 k) := by decide +kernel
abbrev cX4_init : ByteArray := prog_6_method_1_code
def yX4_init : MethodName := ⟨RX4, "<init>", "()V"⟩
abbrev cX4_areLaid : ByteArray := prog_6_method_2_code
def yX4_areLaid : MethodName := ⟨RX4, "areLaid", "()Z"⟩
abbrev cX4_setLaid : ByteArray := prog_6_method_3_code
def yX4_setLaid : MethodName := ⟨RX4, "setLaid", "()V"⟩
abbrev cX4_setVisitors : ByteArray := prog_6_method_4_code
def yX4_setVisitors : MethodName := ⟨RX4, "setVisitors", "(II)V"⟩
abbrev cX4_isVisitor : ByteArray := prog_6_method_5_code
def yX4_isVisitor : MethodName := ⟨RX4, "isVisitor", "(II)Z"⟩
abbrev cX4_wasVisitor : ByteArray := prog_6_method_6_code
def yX4_wasVisitor : MethodName := ⟨RX4, "wasVisitor", "(II)Z"⟩
abbrev cX4_visitorCount : ByteArray := prog_6_method_7_code
def yX4_visitorCount : MethodName := ⟨RX4, "visitorCount", "(I)I"⟩
abbrev cX4_visitsBy : ByteArray := prog_6_method_8_code
def yX4_visitsBy : MethodName := ⟨RX4, "visitsBy", "(I)I"⟩
abbrev cX4_total : ByteArray := prog_6_method_9_code
def yX4_total : MethodName := ⟨RX4, "total", "()I"⟩
abbrev cX4_visitorAt : ByteArray := prog_6_method_10_code
def yX4_visitorAt : MethodName := ⟨RX4, "visitorAt", "(II)I"⟩
abbrev cX4_tell : ByteArray := prog_6_method_11_code
def yX4_tell : MethodName := ⟨RX4, "tell", "(IIIZ)V"⟩
abbrev cX4_breachesAt : ByteArray := prog_6_method_12_code
def yX4_breachesAt : MethodName := ⟨RX4, "breachesAt", "(I)I"⟩
abbrev cX4_vouchersFor : ByteArray := prog_6_method_13_code
def yX4_vouchersFor : MethodName := ⟨RX4, "vouchersFor", "(I)I"⟩
abbrev cX4_vouchedForBy : ByteArray := prog_6_method_14_code
def yX4_vouchedForBy : MethodName := ⟨RX4, "vouchedForBy", "(I)I"⟩
abbrev cX4_endYear : ByteArray := prog_6_method_15_code
def yX4_endYear : MethodName := ⟨RX4, "endYear", "()V"⟩
def RX5 : String := "PeerCircle"
def TX5 : u_T := fun k => match k with
  | 0 => ("PeerCircle", "tape", "LPeerCircle$Tape;", true)
  | 1 => ("PeerCircle", "ruling", "LPeerCircle$Rules;", true)
  | 2 => ("PeerCircle", "visits", "LPeerCircle$Visits;", true)
  | 3 => ("PeerCircle", "planner", "LPeerCircle$Planner;", true)
  | 4 => ("PeerCircle", "farms", "[LPeerCircle$Farm;", true)
  | 5 => ("PeerCircle", "sellers", "[I", true)
  | 6 => ("PeerCircle", "weights", "[I", true)
  | 7 => ("PeerCircle", "farmCount", "I", false)
  | _ => ("PeerCircle", "yearNow", "I", false)
def tyX5 : Nat → FieldType := fun k => match k with
  | 0 => .object "PeerCircle$Tape"
  | 1 => .object "PeerCircle$Rules"
  | 2 => .object "PeerCircle$Visits"
  | 3 => .object "PeerCircle$Planner"
  | 4 => .array (.object "PeerCircle$Farm")
  | 5 => .array .int
  | 6 => .array .int
  | 7 => .int
  | _ => .int
abbrev wsX50 : List Cond := u_ws RX5 TX5 9
theorem nmX5 : ∀ a, a < 9 → ∀ b, b < 9 → a ≠ b → (TX5 a).2.1 ≠ (TX5 b).2.1 := by decide +kernel
theorem tyX5_ok : ∀ k, k < 9 → parseFieldDescriptor (TX5 k).2.2.1 = some (tyX5 k) := by decide +kernel
abbrev cX5_init : ByteArray := prog_1_method_1_code
def yX5_init : MethodName := ⟨RX5, "<init>", "()V"⟩
abbrev cX5_feed : ByteArray := prog_1_method_2_code
def yX5_feed : MethodName := ⟨RX5, "feed", "(IIIII)I"⟩
abbrev cX5_rules : ByteArray := prog_1_method_3_code
def yX5_rules : MethodName := ⟨RX5, "rules", "(I)I"⟩
abbrev cX5_farm : ByteArray := prog_1_method_4_code
def yX5_farm : MethodName := ⟨RX5, "farm", "(II)I"⟩
abbrev cX5_buys : ByteArray := prog_1_method_5_code
def yX5_buys : MethodName := ⟨RX5, "buys", "(IIZ)Z"⟩
abbrev cX5_weight : ByteArray := prog_1_method_6_code
def yX5_weight : MethodName := ⟨RX5, "weight", "(II)Z"⟩
abbrev cX5_lay : ByteArray := prog_1_method_7_code
def yX5_lay : MethodName := ⟨RX5, "lay", "()I"⟩
abbrev cX5_visitor : ByteArray := prog_1_method_8_code
def yX5_visitor : MethodName := ⟨RX5, "visitor", "(II)I"⟩
abbrev cX5_tells : ByteArray := prog_1_method_9_code
def yX5_tells : MethodName := ⟨RX5, "tells", "(IIIZ)Z"⟩
abbrev cX5_breaches : ByteArray := prog_1_method_10_code
def yX5_breaches : MethodName := ⟨RX5, "breaches", "(I)I"⟩
abbrev cX5_weighs : ByteArray := prog_1_method_11_code
def yX5_weighs : MethodName := ⟨RX5, "weighs", "(I)I"⟩
abbrev cX5_vouches : ByteArray := prog_1_method_12_code
def yX5_vouches : MethodName := ⟨RX5, "vouches", "(II)I"⟩
abbrev cX5_trust : ByteArray := prog_1_method_13_code
def yX5_trust : MethodName := ⟨RX5, "trust", "(II)I"⟩
abbrev cX5_sell : ByteArray := prog_1_method_14_code
def yX5_sell : MethodName := ⟨RX5, "sell", "(II)Z"⟩
abbrev cX5_year : ByteArray := prog_1_method_15_code
def yX5_year : MethodName := ⟨RX5, "year", "()I"⟩
abbrev cX5_sealed : ByteArray := prog_1_method_16_code
def yX5_sealed : MethodName := ⟨RX5, "sealed", "(I)I"⟩
abbrev cX5_barred : ByteArray := prog_1_method_17_code
def yX5_barred : MethodName := ⟨RX5, "barred", "(II)I"⟩
abbrev cX5_look : ByteArray := prog_1_method_18_code
def yX5_look : MethodName := ⟨RX5, "look", "(II)I"⟩
abbrev cX5_count : ByteArray := prog_1_method_19_code
def yX5_count : MethodName := ⟨RX5, "count", "(I)I"⟩
abbrev cX5_isBelow : ByteArray := prog_1_method_20_code
def yX5_isBelow : MethodName := ⟨RX5, "isBelow", "(II)Z"⟩
abbrev cX5_hasBit : ByteArray := prog_1_method_21_code
def yX5_hasBit : MethodName := ⟨RX5, "hasBit", "(II)Z"⟩
abbrev cX5_oneIf : ByteArray := prog_1_method_22_code
def yX5_oneIf : MethodName := ⟨RX5, "oneIf", "(Z)I"⟩
abbrev cX5_isFarm : ByteArray := prog_1_method_23_code
def yX5_isFarm : MethodName := ⟨RX5, "isFarm", "(I)Z"⟩
abbrev cX5_areFarms : ByteArray := prog_1_method_24_code
def yX5_areFarms : MethodName := ⟨RX5, "areFarms", "(II)Z"⟩
abbrev cX5_farmAt : ByteArray := prog_1_method_25_code
def yX5_farmAt : MethodName := ⟨RX5, "farmAt", "(I)LPeerCircle$Farm;"⟩
abbrev cX5_buysFrom : ByteArray := prog_1_method_26_code
def yX5_buysFrom : MethodName := ⟨RX5, "buysFrom", "(II)Z"⟩
abbrev cX5_isBarred : ByteArray := prog_1_method_27_code
def yX5_isBarred : MethodName := ⟨RX5, "isBarred", "(II)Z"⟩
abbrev cX5_areKin : ByteArray := prog_1_method_28_code
def yX5_areKin : MethodName := ⟨RX5, "areKin", "(II)Z"⟩
abbrev cX5_weightOf : ByteArray := prog_1_method_29_code
def yX5_weightOf : MethodName := ⟨RX5, "weightOf", "(I)I"⟩
abbrev cX5_countSeals : ByteArray := prog_1_method_30_code
def yX5_countSeals : MethodName := ⟨RX5, "countSeals", "()I"⟩
abbrev cX5_countOut : ByteArray := prog_1_method_31_code
def yX5_countOut : MethodName := ⟨RX5, "countOut", "()I"⟩
def RX6 : String := "PeerCircleModel"
def TX6 : u_T := fun k => match k with
  | 0 => ("PeerCircleModel", "tape", "[B", true)
  | 1 => ("PeerCircleModel", "taped", "I", false)
  | 2 => ("PeerCircleModel", "farms", "I", false)
  | 3 => ("PeerCircleModel", "year", "I", false)
  | 4 => ("PeerCircleModel", "isLaid", "Z", false)
  | 5 => ("PeerCircleModel", "rule", "[I", true)
  | 6 => ("PeerCircleModel", "read", "[I", true)
  | 7 => ("PeerCircleModel", "family", "[I", true)
  | 8 => ("PeerCircleModel", "group", "[I", true)
  | 9 => ("PeerCircleModel", "weight", "[I", true)
  | 10 => ("PeerCircleModel", "hasSeal", "[Z", true)
  | 11 => ("PeerCircleModel", "step", "[I", true)
  | 12 => ("PeerCircleModel", "out", "[I", true)
  | 13 => ("PeerCircleModel", "sold", "[I", true)
  | 14 => ("PeerCircleModel", "doubtful", "[I", true)
  | 15 => ("PeerCircleModel", "now", "[I", true)
  | 16 => ("PeerCircleModel", "isBuyer", "[Z", true)
  | 17 => ("PeerCircleModel", "visits", "[Z", true)
  | 18 => ("PeerCircleModel", "had", "[Z", true)
  | 19 => ("PeerCircleModel", "broken", "[I", true)
  | 20 => ("PeerCircleModel", "fixed", "[Z", true)
  | 21 => ("PeerCircleModel", "open", "[Z", true)
  | 22 => ("PeerCircleModel", "flow", "[Z", true)
  | 23 => ("PeerCircleModel", "makes", "[I", true)
  | 24 => ("PeerCircleModel", "gets", "[I", true)
  | 25 => ("PeerCircleModel", "toVisitor", "[I", true)
  | 26 => ("PeerCircleModel", "toFarm", "[I", true)
  | 27 => ("PeerCircleModel", "queue", "[I", true)
  | _ => ("PeerCircleModel", "far", "[I", true)
def tyX6 : Nat → FieldType := fun k => match k with
  | 0 => .array .byte
  | 1 => .int
  | 2 => .int
  | 3 => .int
  | 4 => .boolean
  | 5 => .array .int
  | 6 => .array .int
  | 7 => .array .int
  | 8 => .array .int
  | 9 => .array .int
  | 10 => .array .boolean
  | 11 => .array .int
  | 12 => .array .int
  | 13 => .array .int
  | 14 => .array .int
  | 15 => .array .int
  | 16 => .array .boolean
  | 17 => .array .boolean
  | 18 => .array .boolean
  | 19 => .array .int
  | 20 => .array .boolean
  | 21 => .array .boolean
  | 22 => .array .boolean
  | 23 => .array .int
  | 24 => .array .int
  | 25 => .array .int
  | 26 => .array .int
  | 27 => .array .int
  | _ => .array .int
abbrev wsX60 : List Cond := u_ws RX6 TX6 29
theorem nmX6 : ∀ a, a < 29 → ∀ b, b < 29 → a ≠ b → (TX6 a).2.1 ≠ (TX6 b).2.1 := by decide +kernel
theorem tyX6_ok : ∀ k, k < 29 → parseFieldDescriptor (TX6 k).2.2.1 = some (tyX6 k) := by decide +kernel
abbrev cX6_init : ByteArray := prog_8_method_1_code
def yX6_init : MethodName := ⟨RX6, "<init>", "()V"⟩
abbrev cX6_lies : ByteArray := prog_8_method_2_code
def yX6_lies : MethodName := ⟨RX6, "lies", "(III)Z"⟩
abbrev cX6_push : ByteArray := prog_8_method_3_code
def yX6_push : MethodName := ⟨RX6, "push", "(I)V"⟩
abbrev cX6_feed : ByteArray := prog_8_method_4_code
def yX6_feed : MethodName := ⟨RX6, "feed", "(IIIII)I"⟩
abbrev cX6_asAtFirst : ByteArray := prog_8_method_5_code
def yX6_asAtFirst : MethodName := ⟨RX6, "asAtFirst", "([I)V"⟩
abbrev cX6_letter : ByteArray := prog_8_method_6_code
def yX6_letter : MethodName := ⟨RX6, "letter", "(I)I"⟩
abbrev cX6_canBe : ByteArray := prog_8_method_7_code
def yX6_canBe : MethodName := ⟨RX6, "canBe", "(II)Z"⟩
abbrev cX6_at : ByteArray := prog_8_method_8_code
def yX6_at : MethodName := ⟨RX6, "at", "(II)I"⟩
abbrev cX6_reads : ByteArray := prog_8_method_9_code
def yX6_reads : MethodName := ⟨RX6, "reads", "(I)I"⟩
abbrev cX6_rules : ByteArray := prog_8_method_10_code
def yX6_rules : MethodName := ⟨RX6, "rules", "(I)I"⟩
abbrev cX6_isFarm : ByteArray := prog_8_method_11_code
def yX6_isFarm : MethodName := ⟨RX6, "isFarm", "(I)Z"⟩
abbrev cX6_farm : ByteArray := prog_8_method_12_code
def yX6_farm : MethodName := ⟨RX6, "farm", "(II)I"⟩
abbrev cX6_buys : ByteArray := prog_8_method_13_code
def yX6_buys : MethodName := ⟨RX6, "buys", "(IIZ)Z"⟩
abbrev cX6_weight : ByteArray := prog_8_method_14_code
def yX6_weight : MethodName := ⟨RX6, "weight", "(II)Z"⟩
abbrev cX6_isBarred : ByteArray := prog_8_method_15_code
def yX6_isBarred : MethodName := ⟨RX6, "isBarred", "(II)Z"⟩
abbrev cX6_barred : ByteArray := prog_8_method_16_code
def yX6_barred : MethodName := ⟨RX6, "barred", "(II)I"⟩
abbrev cX6_grows : ByteArray := prog_8_method_17_code
def yX6_grows : MethodName := ⟨RX6, "grows", "()Z"⟩
abbrev cX6_turns : ByteArray := prog_8_method_18_code
def yX6_turns : MethodName := ⟨RX6, "turns", "(I)V"⟩
abbrev cX6_most : ByteArray := prog_8_method_19_code
def yX6_most : MethodName := ⟨RX6, "most", "()I"⟩
abbrev cX6_lay : ByteArray := prog_8_method_20_code
def yX6_lay : MethodName := ⟨RX6, "lay", "()I"⟩
abbrev cX6_isVisit : ByteArray := prog_8_method_21_code
def yX6_isVisit : MethodName := ⟨RX6, "isVisit", "(II)Z"⟩
abbrev cX6_visitorsOf : ByteArray := prog_8_method_22_code
def yX6_visitorsOf : MethodName := ⟨RX6, "visitorsOf", "(I)I"⟩
abbrev cX6_visitor : ByteArray := prog_8_method_23_code
def yX6_visitor : MethodName := ⟨RX6, "visitor", "(II)I"⟩
abbrev cX6_tells : ByteArray := prog_8_method_24_code
def yX6_tells : MethodName := ⟨RX6, "tells", "(IIIZ)Z"⟩
abbrev cX6_breachesAt : ByteArray := prog_8_method_25_code
def yX6_breachesAt : MethodName := ⟨RX6, "breachesAt", "(I)I"⟩
abbrev cX6_weighsAt : ByteArray := prog_8_method_26_code
def yX6_weighsAt : MethodName := ⟨RX6, "weighsAt", "(I)I"⟩
abbrev cX6_breaches : ByteArray := prog_8_method_27_code
def yX6_breaches : MethodName := ⟨RX6, "breaches", "(I)I"⟩
abbrev cX6_weighs : ByteArray := prog_8_method_28_code
def yX6_weighs : MethodName := ⟨RX6, "weighs", "(I)I"⟩
abbrev cX6_isVouched : ByteArray := prog_8_method_29_code
def yX6_isVouched : MethodName := ⟨RX6, "isVouched", "(II)Z"⟩
abbrev cX6_vouches : ByteArray := prog_8_method_30_code
def yX6_vouches : MethodName := ⟨RX6, "vouches", "(II)I"⟩
abbrev cX6_trust : ByteArray := prog_8_method_31_code
def yX6_trust : MethodName := ⟨RX6, "trust", "(II)I"⟩
abbrev cX6_sell : ByteArray := prog_8_method_32_code
def yX6_sell : MethodName := ⟨RX6, "sell", "(II)Z"⟩
abbrev cX6_goesOut : ByteArray := prog_8_method_33_code
def yX6_goesOut : MethodName := ⟨RX6, "goesOut", "(I)V"⟩
abbrev cX6_goesBy : ByteArray := prog_8_method_34_code
def yX6_goesBy : MethodName := ⟨RX6, "goesBy", "(I)V"⟩
abbrev cX6_year : ByteArray := prog_8_method_35_code
def yX6_year : MethodName := ⟨RX6, "year", "()I"⟩
abbrev cX6_sealed : ByteArray := prog_8_method_36_code
def yX6_sealed : MethodName := ⟨RX6, "sealed", "(I)I"⟩
abbrev cX6_look : ByteArray := prog_8_method_37_code
def yX6_look : MethodName := ⟨RX6, "look", "(II)I"⟩
abbrev cX6_count : ByteArray := prog_8_method_38_code
def yX6_count : MethodName := ⟨RX6, "count", "(I)I"⟩
def RJ11 : String := "java/lang/Character"
def TJ11 : u_T := fun k => match k with
  | _ => ("", "", "", false)
def tyJ11 : Nat → FieldType := fun k => match k with
  | _ => .int
abbrev wsJ110 : List Cond := u_ws RJ11 TJ11 0
theorem nmJ11 : ∀ a, a < 0 → ∀ b, b < 0 → a ≠ b → (TJ11 a).2.1 ≠ (TJ11 b).2.1 := by decide +kernel
theorem tyJ11_ok : ∀ k, k < 0 → parseFieldDescriptor (TJ11 k).2.2.1 = some (tyJ11 k) := by decide +kernel
abbrev cJ11_isValidCodePoint_9a6ad : ByteArray := prog_9_method_11_code
def yJ11_isValidCodePoint_9a6ad : MethodName := ⟨RJ11, "isValidCodePoint", "(I)Z"⟩
abbrev cJ11_highSurrogate_5068e : ByteArray := prog_9_method_28_code
def yJ11_highSurrogate_5068e : MethodName := ⟨RJ11, "highSurrogate", "(I)C"⟩
abbrev cJ11_lowSurrogate_5068e : ByteArray := prog_9_method_29_code
def yJ11_lowSurrogate_5068e : MethodName := ⟨RJ11, "lowSurrogate", "(I)C"⟩
def RJ6 : String := "java/lang/Integer"
def TJ6 : u_T := fun k => match k with
  | _ => ("", "", "", false)
def tyJ6 : Nat → FieldType := fun k => match k with
  | _ => .int
abbrev wsJ60 : List Cond := u_ws RJ6 TJ6 0
theorem nmJ6 : ∀ a, a < 0 → ∀ b, b < 0 → a ≠ b → (TJ6 a).2.1 ≠ (TJ6 b).2.1 := by decide +kernel
theorem tyJ6_ok : ∀ k, k < 0 → parseFieldDescriptor (TJ6 k).2.2.1 = some (tyJ6 k) := by decide +kernel
abbrev cJ6_bitCount_0f7a4 : ByteArray := prog_10_method_49_code
def yJ6_bitCount_0f7a4 : MethodName := ⟨RJ6, "bitCount", "(I)I"⟩
def RJ9 : String := "java/lang/Math"
def TJ9 : u_T := fun k => match k with
  | _ => ("", "", "", false)
def tyJ9 : Nat → FieldType := fun k => match k with
  | _ => .int
abbrev wsJ90 : List Cond := u_ws RJ9 TJ9 0
theorem nmJ9 : ∀ a, a < 0 → ∀ b, b < 0 → a ≠ b → (TJ9 a).2.1 ≠ (TJ9 b).2.1 := by decide +kernel
theorem tyJ9_ok : ∀ k, k < 0 → parseFieldDescriptor (TJ9 k).2.2.1 = some (tyJ9 k) := by decide +kernel
abbrev cJ9_max_7cf53 : ByteArray := prog_11_method_65_code
def yJ9_max_7cf53 : MethodName := ⟨RJ9, "max", "(II)I"⟩
abbrev cJ9_min_7cf53 : ByteArray := prog_11_method_69_code
def yJ9_min_7cf53 : MethodName := ⟨RJ9, "min", "(II)I"⟩
def RJ0 : String := "java/lang/String"
def TJ0 : u_T := fun k => match k with
  | _ => ("", "", "", false)
def tyJ0 : Nat → FieldType := fun k => match k with
  | _ => .int
abbrev wsJ00 : List Cond := u_ws RJ0 TJ0 0
theorem nmJ0 : ∀ a, a < 0 → ∀ b, b < 0 → a ≠ b → (TJ0 a).2.1 ≠ (TJ0 b).2.1 := by decide +kernel
theorem tyJ0_ok : ∀ k, k < 0 → parseFieldDescriptor (TJ0 k).2.2.1 = some (tyJ0 k) := by decide +kernel
abbrev cJ0_length_8abf5 : ByteArray := prog_12_method_54_code
def yJ0_length_8abf5 : MethodName := ⟨RJ0, "length", "()I"⟩
abbrev cJ0_indexOf_0f7a4 : ByteArray := prog_12_method_79_code
def yJ0_indexOf_0f7a4 : MethodName := ⟨RJ0, "indexOf", "(I)I"⟩
abbrev cJ0_indexOf_7cf53 : ByteArray := prog_12_method_80_code
def yJ0_indexOf_7cf53 : MethodName := ⟨RJ0, "indexOf", "(II)I"⟩
abbrev cJ0_coder_7d493 : ByteArray := prog_12_method_152_code
def yJ0_coder_7d493 : MethodName := ⟨RJ0, "coder", "()B"⟩
abbrev cJ0_isLatin1_aae02 : ByteArray := prog_12_method_154_code
def yJ0_isLatin1_aae02 : MethodName := ⟨RJ0, "isLatin1", "()Z"⟩
abbrev cJ0_checkBoundsBeginEnd_23922 : ByteArray := prog_12_method_158_code
def yJ0_checkBoundsBeginEnd_23922 : MethodName := ⟨RJ0, "checkBoundsBeginEnd", "(III)V"⟩
def RJ1 : String := "java/lang/StringLatin1"
def TJ1 : u_T := fun k => match k with
  | _ => ("", "", "", false)
def tyJ1 : Nat → FieldType := fun k => match k with
  | _ => .int
abbrev wsJ10 : List Cond := u_ws RJ1 TJ1 0
theorem nmJ1 : ∀ a, a < 0 → ∀ b, b < 0 → a ≠ b → (TJ1 a).2.1 ≠ (TJ1 b).2.1 := by decide +kernel
theorem tyJ1_ok : ∀ k, k < 0 → parseFieldDescriptor (TJ1 k).2.2.1 = some (tyJ1 k) := by decide +kernel
abbrev cJ1_canEncode_9a6ad : ByteArray := prog_13_method_4_code
def yJ1_canEncode_9a6ad : MethodName := ⟨RJ1, "canEncode", "(I)Z"⟩
abbrev cJ1_indexOf_4cfef : ByteArray := prog_13_method_22_code
def yJ1_indexOf_4cfef : MethodName := ⟨RJ1, "indexOf", "([BIII)I"⟩
abbrev cJ1_indexOfChar_4cfef : ByteArray := prog_13_method_23_code
def yJ1_indexOfChar_4cfef : MethodName := ⟨RJ1, "indexOfChar", "([BIII)I"⟩
def RJ2 : String := "java/lang/StringUTF16"
def TJ2 : u_T := fun k => match k with
  | _ => ("", "", "", false)
def tyJ2 : Nat → FieldType := fun k => match k with
  | _ => .int
abbrev wsJ20 : List Cond := u_ws RJ2 TJ2 0
theorem nmJ2 : ∀ a, a < 0 → ∀ b, b < 0 → a ≠ b → (TJ2 a).2.1 ≠ (TJ2 b).2.1 := by decide +kernel
theorem tyJ2_ok : ∀ k, k < 0 → parseFieldDescriptor (TJ2 k).2.2.1 = some (tyJ2 k) := by decide +kernel
abbrev cJ2_getChar_3b067 : ByteArray := prog_14_method_5_code
def yJ2_getChar_3b067 : MethodName := ⟨RJ2, "getChar", "([BI)C"⟩
abbrev cJ2_length_9d52b : ByteArray := prog_14_method_6_code
def yJ2_length_9d52b : MethodName := ⟨RJ2, "length", "([B)I"⟩
abbrev cJ2_indexOf_4cfef : ByteArray := prog_14_method_40_code
def yJ2_indexOf_4cfef : MethodName := ⟨RJ2, "indexOf", "([BIII)I"⟩
abbrev cJ2_indexOfChar_4cfef : ByteArray := prog_14_method_47_code
def yJ2_indexOfChar_4cfef : MethodName := ⟨RJ2, "indexOfChar", "([BIII)I"⟩
abbrev cJ2_indexOfCharUnsafe_4cfef : ByteArray := prog_14_method_48_code
def yJ2_indexOfCharUnsafe_4cfef : MethodName := ⟨RJ2, "indexOfCharUnsafe", "([BIII)I"⟩
abbrev cJ2_indexOfSupplementary_4cfef : ByteArray := prog_14_method_49_code
def yJ2_indexOfSupplementary_4cfef : MethodName := ⟨RJ2, "indexOfSupplementary", "([BIII)I"⟩
abbrev cJ2_checkBoundsBeginEnd_d044e : ByteArray := prog_14_method_93_code
def yJ2_checkBoundsBeginEnd_d044e : MethodName := ⟨RJ2, "checkBoundsBeginEnd", "(II[B)V"⟩
def RJ10 : String := "java/lang/System"
def TJ10 : u_T := fun k => match k with
  | _ => ("", "", "", false)
def tyJ10 : Nat → FieldType := fun k => match k with
  | _ => .int
abbrev wsJ100 : List Cond := u_ws RJ10 TJ10 0
theorem nmJ10 : ∀ a, a < 0 → ∀ b, b < 0 → a ≠ b → (TJ10 a).2.1 ≠ (TJ10 b).2.1 := by decide +kernel
theorem tyJ10_ok : ∀ k, k < 0 → parseFieldDescriptor (TJ10 k).2.2.1 = some (tyJ10 k) := by decide +kernel
def RJ7 : String := "java/util/Arrays"
def TJ7 : u_T := fun k => match k with
  | _ => ("", "", "", false)
def tyJ7 : Nat → FieldType := fun k => match k with
  | _ => .int
abbrev wsJ70 : List Cond := u_ws RJ7 TJ7 0
theorem nmJ7 : ∀ a, a < 0 → ∀ b, b < 0 → a ≠ b → (TJ7 a).2.1 ≠ (TJ7 b).2.1 := by decide +kernel
theorem tyJ7_ok : ∀ k, k < 0 → parseFieldDescriptor (TJ7 k).2.2.1 = some (tyJ7 k) := by decide +kernel
abbrev cJ7_fill_53178 : ByteArray := prog_16_method_103_code
def yJ7_fill_53178 : MethodName := ⟨RJ7, "fill", "([II)V"⟩
def RJ3 : String := "jdk/internal/util/Preconditions"
def TJ3 : u_T := fun k => match k with
  | _ => ("", "", "", false)
def tyJ3 : Nat → FieldType := fun k => match k with
  | _ => .int
abbrev wsJ30 : List Cond := u_ws RJ3 TJ3 0
theorem nmJ3 : ∀ a, a < 0 → ∀ b, b < 0 → a ≠ b → (TJ3 a).2.1 ≠ (TJ3 b).2.1 := by decide +kernel
theorem tyJ3_ok : ∀ k, k < 0 → parseFieldDescriptor (TJ3 k).2.2.1 = some (tyJ3 k) := by decide +kernel
abbrev cJ3_checkFromToIndex_8c36e : ByteArray := prog_17_method_12_code
def yJ3_checkFromToIndex_8c36e : MethodName := ⟨RJ3, "checkFromToIndex", "(IIILjava/util/function/BiFunction;)I"⟩
def RL : String := "PeerCircleLaw"
abbrev cL_law : ByteArray := code
def yL_law : MethodName := ⟨RL, "law", "([I)Z"⟩
abbrev vwCl : List vw_C := [(RX0, TX0, 8), (RX1, TX1, 7), (RX2, TX2, 3), (RX3, TX3, 2), (RX4, TX4, 4), (RX5, TX5, 9), (RX6, TX6, 29)]
end
section
def wsX0_init : List Cond := .code yX0_init cX0_init 3 none :: ([.methodLink RX0 1 objectInit, .instanceMethod objectInit, .code objectInit ⟨#[0xb1]⟩ 1 none, .fieldLink RX0 7 "PeerCircle$Farm" "hasSeal" "Z", .fieldLink RX0 13 "PeerCircle$Farm" "step" "I", .fieldLink RX0 17 "PeerCircle$Farm" "yearsOut" "I", .fieldLink RX0 20 "PeerCircle$Farm" "soldEver" "I", .fieldLink RX0 23 "PeerCircle$Farm" "soldThisYear" "I", .fieldLink RX0 26 "PeerCircle$Farm" "doubtful" "I", .fieldLink RX0 29 "PeerCircle$Farm" "family" "I", .fieldLink RX0 32 "PeerCircle$Farm" "group" "I"] ++ wsX00)
def wsX0_isOut : List Cond := .code yX0_isOut cX0_isOut 1 (some .boolean) :: ([.fieldLink RX0 17 "PeerCircle$Farm" "yearsOut" "I"] ++ wsX00)
def wsX0_sellBaskets : List Cond := .code yX0_sellBaskets cX0_sellBaskets 2 none :: ([.fieldLink RX0 20 "PeerCircle$Farm" "soldEver" "I", .fieldLink RX0 23 "PeerCircle$Farm" "soldThisYear" "I"] ++ wsX00)
def wsX0_countDoubtful : List Cond := .code yX0_countDoubtful cX0_countDoubtful 2 none :: ([.fieldLink RX0 26 "PeerCircle$Farm" "doubtful" "I", .fieldLink RX0 23 "PeerCircle$Farm" "soldThisYear" "I"] ++ wsX00)
def wsX5_isBelow : List Cond := .code yX5_isBelow cX5_isBelow 2 (some .boolean) :: ([])
def wsX2_number : List Cond := .code yX2_number cX2_number 2 (some .int) :: ([.fieldLink RX2 11 "PeerCircle$Rules" "numbers" "[I", .static yX5_isBelow, .initialized RX5, .code yX5_isBelow cX5_isBelow 2 (some .boolean)] ++ wsX20)
def wsX0_changeStep : List Cond := .code yX0_changeStep cX0_changeStep 3 none :: ([.fieldLink RX0 13 "PeerCircle$Farm" "step" "I", .methodLink RX0 45 yX2_number, .instanceMethod yX2_number, .selects RX2 yX2_number yX2_number, .initialized RX2, .code yX2_number cX2_number 2 (some .int), .fieldLink RX2 11 "PeerCircle$Rules" "numbers" "[I", .static yX5_isBelow, .initialized RX5, .code yX5_isBelow cX5_isBelow 2 (some .boolean)] ++ wsX00 ++ wsX20)
def wsX0_goOn : List Cond := .code yX0_goOn cX0_goOn 4 none :: ([.fieldLink RX0 17 "PeerCircle$Farm" "yearsOut" "I", .fieldLink RX0 13 "PeerCircle$Farm" "step" "I", .fieldLink RX0 7 "PeerCircle$Farm" "hasSeal" "Z", .methodLink RX0 35 yX0_isOut, .instanceMethod yX0_isOut, .selects RX0 yX0_isOut yX0_isOut, .initialized RX0, .code yX0_isOut cX0_isOut 1 (some .boolean), .methodLink RX0 39 yX0_changeStep, .instanceMethod yX0_changeStep, .selects RX0 yX0_changeStep yX0_changeStep, .code yX0_changeStep cX0_changeStep 3 none, .methodLink RX0 45 yX2_number, .instanceMethod yX2_number, .selects RX2 yX2_number yX2_number, .initialized RX2, .code yX2_number cX2_number 2 (some .int), .fieldLink RX2 11 "PeerCircle$Rules" "numbers" "[I", .static yX5_isBelow, .initialized RX5, .code yX5_isBelow cX5_isBelow 2 (some .boolean)] ++ wsX00 ++ wsX20)
def wsX1_init : List Cond := .code yX1_init cX1_init 1 none :: ([.methodLink RX1 5 objectInit, .instanceMethod objectInit, .code objectInit ⟨#[0xb1]⟩ 1 none, .arrayClass .int, .fieldLink RX1 11 "PeerCircle$Planner" "ways" "[I", .fieldLink RX1 15 "PeerCircle$Planner" "cameFrom" "[I", .fieldLink RX1 18 "PeerCircle$Planner" "queue" "[I", .fieldLink RX1 21 "PeerCircle$Planner" "visitors" "[I", .fieldLink RX1 24 "PeerCircle$Planner" "visitsMade" "[I", .fieldLink RX1 27 "PeerCircle$Planner" "mostVisitors" "I", .fieldLink RX1 31 "PeerCircle$Planner" "mostVisits" "I"] ++ wsX10)
def wsX1_visitorsOf : List Cond := .code yX1_visitorsOf cX1_visitorsOf 2 (some .int) :: ([.fieldLink RX1 21 "PeerCircle$Planner" "visitors" "[I"] ++ wsX10)
def wsJ7_fill_53178 : List Cond := .code yJ7_fill_53178 cJ7_fill_53178 4 none :: ([])
def wsX1_begin : List Cond := .code yX1_begin cX1_begin 3 none :: ([.fieldLink RX1 27 "PeerCircle$Planner" "mostVisitors" "I", .fieldLink RX1 31 "PeerCircle$Planner" "mostVisits" "I", .fieldLink RX1 11 "PeerCircle$Planner" "ways" "[I", .fieldLink RX1 21 "PeerCircle$Planner" "visitors" "[I", .fieldLink RX1 24 "PeerCircle$Planner" "visitsMade" "[I", .methodLink RX1 34 yJ7_fill_53178, .static yJ7_fill_53178, .initialized RJ7, .code yJ7_fill_53178 cJ7_fill_53178 4 none] ++ wsX10)
def wsX1_placeVisited : List Cond := .code yX1_placeVisited cX1_placeVisited 1 (some .int) :: ([])
def wsX1_setWay : List Cond := .code yX1_setWay cX1_setWay 4 none :: ([.fieldLink RX1 11 "PeerCircle$Planner" "ways" "[I"] ++ wsX10)
def wsJ6_bitCount_0f7a4 : List Cond := .code yJ6_bitCount_0f7a4 cJ6_bitCount_0f7a4 1 (some .int) :: ([.constant RJ6 265 (1431655765), .constant RJ6 266 (858993459), .constant RJ6 267 (252645135)])
def wsX1_openByLimits : List Cond := .code yX1_openByLimits cX1_openByLimits 5 none :: ([.fieldLink RX1 21 "PeerCircle$Planner" "visitors" "[I", .fieldLink RX1 24 "PeerCircle$Planner" "visitsMade" "[I", .fieldLink RX1 31 "PeerCircle$Planner" "mostVisits" "I", .fieldLink RX1 27 "PeerCircle$Planner" "mostVisitors" "I", .methodLink RX1 40 yX1_placeVisited, .static yX1_placeVisited, .initialized RX1, .code yX1_placeVisited cX1_placeVisited 1 (some .int), .methodLink RX1 65 yJ6_bitCount_0f7a4, .static yJ6_bitCount_0f7a4, .initialized RJ6, .code yJ6_bitCount_0f7a4 cJ6_bitCount_0f7a4 1 (some .int), .constant RJ6 265 (1431655765), .constant RJ6 266 (858993459), .constant RJ6 267 (252645135), .methodLink RX1 44 yX1_setWay, .instanceMethod yX1_setWay, .selects RX1 yX1_setWay yX1_setWay, .code yX1_setWay cX1_setWay 4 none, .fieldLink RX1 11 "PeerCircle$Planner" "ways" "[I"] ++ wsX10)
def wsX1_allow : List Cond := .code yX1_allow cX1_allow 3 none :: ([.methodLink RX1 40 yX1_placeVisited, .static yX1_placeVisited, .initialized RX1, .code yX1_placeVisited cX1_placeVisited 1 (some .int), .methodLink RX1 44 yX1_setWay, .instanceMethod yX1_setWay, .selects RX1 yX1_setWay yX1_setWay, .code yX1_setWay cX1_setWay 4 none, .fieldLink RX1 11 "PeerCircle$Planner" "ways" "[I", .methodLink RX1 48 yX1_openByLimits, .instanceMethod yX1_openByLimits, .selects RX1 yX1_openByLimits yX1_openByLimits, .code yX1_openByLimits cX1_openByLimits 5 none, .fieldLink RX1 21 "PeerCircle$Planner" "visitors" "[I", .fieldLink RX1 24 "PeerCircle$Planner" "visitsMade" "[I", .fieldLink RX1 31 "PeerCircle$Planner" "mostVisits" "I", .fieldLink RX1 27 "PeerCircle$Planner" "mostVisitors" "I", .methodLink RX1 65 yJ6_bitCount_0f7a4, .static yJ6_bitCount_0f7a4, .initialized RJ6, .code yJ6_bitCount_0f7a4 cJ6_bitCount_0f7a4 1 (some .int), .constant RJ6 265 (1431655765), .constant RJ6 266 (858993459), .constant RJ6 267 (252645135)] ++ wsX10)
def wsX1_lowestBit : List Cond := .code yX1_lowestBit cX1_lowestBit 1 (some .int) :: ([.methodLink RX1 65 yJ6_bitCount_0f7a4, .static yJ6_bitCount_0f7a4, .initialized RJ6, .code yJ6_bitCount_0f7a4 cJ6_bitCount_0f7a4 1 (some .int), .constant RJ6 265 (1431655765), .constant RJ6 266 (858993459), .constant RJ6 267 (252645135)])
def wsX5_hasBit : List Cond := .code yX5_hasBit cX5_hasBit 2 (some .boolean) :: ([])
def wsX1_findPath : List Cond := .code yX1_findPath cX1_findPath 10 (some .boolean) :: ([.fieldLink RX1 18 "PeerCircle$Planner" "queue" "[I", .fieldLink RX1 11 "PeerCircle$Planner" "ways" "[I", .fieldLink RX1 15 "PeerCircle$Planner" "cameFrom" "[I", .methodLink RX1 70 yX1_lowestBit, .static yX1_lowestBit, .initialized RX1, .code yX1_lowestBit cX1_lowestBit 1 (some .int), .methodLink RX1 65 yJ6_bitCount_0f7a4, .static yJ6_bitCount_0f7a4, .initialized RJ6, .code yJ6_bitCount_0f7a4 cJ6_bitCount_0f7a4 1 (some .int), .constant RJ6 265 (1431655765), .constant RJ6 266 (858993459), .constant RJ6 267 (252645135), .static yX5_hasBit, .initialized RX5, .code yX5_hasBit cX5_hasBit 2 (some .boolean)] ++ wsX10)
def wsX1_addVisit : List Cond := .code yX1_addVisit cX1_addVisit 3 none :: ([.fieldLink RX1 21 "PeerCircle$Planner" "visitors" "[I", .fieldLink RX1 24 "PeerCircle$Planner" "visitsMade" "[I", .methodLink RX1 40 yX1_placeVisited, .static yX1_placeVisited, .initialized RX1, .code yX1_placeVisited cX1_placeVisited 1 (some .int), .methodLink RX1 44 yX1_setWay, .instanceMethod yX1_setWay, .selects RX1 yX1_setWay yX1_setWay, .code yX1_setWay cX1_setWay 4 none, .fieldLink RX1 11 "PeerCircle$Planner" "ways" "[I", .methodLink RX1 48 yX1_openByLimits, .instanceMethod yX1_openByLimits, .selects RX1 yX1_openByLimits yX1_openByLimits, .code yX1_openByLimits cX1_openByLimits 5 none, .fieldLink RX1 31 "PeerCircle$Planner" "mostVisits" "I", .fieldLink RX1 27 "PeerCircle$Planner" "mostVisitors" "I", .methodLink RX1 65 yJ6_bitCount_0f7a4, .static yJ6_bitCount_0f7a4, .initialized RJ6, .code yJ6_bitCount_0f7a4 cJ6_bitCount_0f7a4 1 (some .int), .constant RJ6 265 (1431655765), .constant RJ6 266 (858993459), .constant RJ6 267 (252645135)] ++ wsX10)
def wsX1_dropVisit : List Cond := .code yX1_dropVisit cX1_dropVisit 3 none :: ([.fieldLink RX1 21 "PeerCircle$Planner" "visitors" "[I", .fieldLink RX1 24 "PeerCircle$Planner" "visitsMade" "[I", .methodLink RX1 40 yX1_placeVisited, .static yX1_placeVisited, .initialized RX1, .code yX1_placeVisited cX1_placeVisited 1 (some .int), .methodLink RX1 44 yX1_setWay, .instanceMethod yX1_setWay, .selects RX1 yX1_setWay yX1_setWay, .code yX1_setWay cX1_setWay 4 none, .fieldLink RX1 11 "PeerCircle$Planner" "ways" "[I", .methodLink RX1 48 yX1_openByLimits, .instanceMethod yX1_openByLimits, .selects RX1 yX1_openByLimits yX1_openByLimits, .code yX1_openByLimits cX1_openByLimits 5 none, .fieldLink RX1 31 "PeerCircle$Planner" "mostVisits" "I", .fieldLink RX1 27 "PeerCircle$Planner" "mostVisitors" "I", .methodLink RX1 65 yJ6_bitCount_0f7a4, .static yJ6_bitCount_0f7a4, .initialized RJ6, .code yJ6_bitCount_0f7a4 cJ6_bitCount_0f7a4 1 (some .int), .constant RJ6 265 (1431655765), .constant RJ6 266 (858993459), .constant RJ6 267 (252645135)] ++ wsX10)
def wsX1_moveVisit_r1 : List Cond := [Cond.static yX5_isBelow, Cond.initialized RX5, Cond.code yX5_isBelow cX5_isBelow 2 (some .boolean), Cond.methodLink RX1 62 yX1_addVisit, Cond.instanceMethod yX1_addVisit, Cond.selects RX1 yX1_addVisit yX1_addVisit, Cond.initialized RX1, Cond.code yX1_addVisit cX1_addVisit 3 none, Cond.fieldLink RX1 21 "PeerCircle$Planner" "visitors" "[I", Cond.fieldLink RX1 24 "PeerCircle$Planner" "visitsMade" "[I", Cond.methodLink RX1 40 yX1_placeVisited, Cond.static yX1_placeVisited, Cond.code yX1_placeVisited cX1_placeVisited 1 (some .int), Cond.methodLink RX1 44 yX1_setWay, Cond.instanceMethod yX1_setWay, Cond.selects RX1 yX1_setWay yX1_setWay, Cond.code yX1_setWay cX1_setWay 4 none, Cond.fieldLink RX1 11 "PeerCircle$Planner" "ways" "[I", Cond.methodLink RX1 48 yX1_openByLimits, Cond.instanceMethod yX1_openByLimits, Cond.selects RX1 yX1_openByLimits yX1_openByLimits, Cond.code yX1_openByLimits cX1_openByLimits 5 none, Cond.fieldLink RX1 31 "PeerCircle$Planner" "mostVisits" "I", Cond.fieldLink RX1 27 "PeerCircle$Planner" "mostVisitors" "I"]
def wsX1_moveVisit_r2 : List Cond := [Cond.methodLink RX1 65 yJ6_bitCount_0f7a4, Cond.static yJ6_bitCount_0f7a4, Cond.initialized RJ6, Cond.code yJ6_bitCount_0f7a4 cJ6_bitCount_0f7a4 1 (some .int), Cond.constant RJ6 265 (1431655765), Cond.constant RJ6 266 (858993459), Cond.constant RJ6 267 (252645135), Cond.methodLink RX1 79 yX1_dropVisit, Cond.instanceMethod yX1_dropVisit, Cond.selects RX1 yX1_dropVisit yX1_dropVisit, Cond.code yX1_dropVisit cX1_dropVisit 3 none]
def wsX1_moveVisit : List Cond := .code yX1_moveVisit cX1_moveVisit 3 none :: ((wsX1_moveVisit_r1 ++ wsX1_moveVisit_r2) ++ wsX10)
def wsX1_followPath_r1 : List Cond := [Cond.fieldLink RX1 15 "PeerCircle$Planner" "cameFrom" "[I", Cond.methodLink RX1 73 yX1_moveVisit, Cond.instanceMethod yX1_moveVisit, Cond.selects RX1 yX1_moveVisit yX1_moveVisit, Cond.initialized RX1, Cond.code yX1_moveVisit cX1_moveVisit 3 none, Cond.static yX5_isBelow, Cond.initialized RX5, Cond.code yX5_isBelow cX5_isBelow 2 (some .boolean), Cond.methodLink RX1 62 yX1_addVisit, Cond.instanceMethod yX1_addVisit, Cond.selects RX1 yX1_addVisit yX1_addVisit, Cond.code yX1_addVisit cX1_addVisit 3 none, Cond.fieldLink RX1 21 "PeerCircle$Planner" "visitors" "[I", Cond.fieldLink RX1 24 "PeerCircle$Planner" "visitsMade" "[I", Cond.methodLink RX1 40 yX1_placeVisited, Cond.static yX1_placeVisited, Cond.code yX1_placeVisited cX1_placeVisited 1 (some .int), Cond.methodLink RX1 44 yX1_setWay, Cond.instanceMethod yX1_setWay, Cond.selects RX1 yX1_setWay yX1_setWay, Cond.code yX1_setWay cX1_setWay 4 none, Cond.fieldLink RX1 11 "PeerCircle$Planner" "ways" "[I", Cond.methodLink RX1 48 yX1_openByLimits]
def wsX1_followPath_r2 : List Cond := [Cond.instanceMethod yX1_openByLimits, Cond.selects RX1 yX1_openByLimits yX1_openByLimits, Cond.code yX1_openByLimits cX1_openByLimits 5 none, Cond.fieldLink RX1 31 "PeerCircle$Planner" "mostVisits" "I", Cond.fieldLink RX1 27 "PeerCircle$Planner" "mostVisitors" "I", Cond.methodLink RX1 65 yJ6_bitCount_0f7a4, Cond.static yJ6_bitCount_0f7a4, Cond.initialized RJ6, Cond.code yJ6_bitCount_0f7a4 cJ6_bitCount_0f7a4 1 (some .int), Cond.constant RJ6 265 (1431655765), Cond.constant RJ6 266 (858993459), Cond.constant RJ6 267 (252645135), Cond.methodLink RX1 79 yX1_dropVisit, Cond.instanceMethod yX1_dropVisit, Cond.selects RX1 yX1_dropVisit yX1_dropVisit, Cond.code yX1_dropVisit cX1_dropVisit 3 none]
def wsX1_followPath : List Cond := .code yX1_followPath cX1_followPath 6 none :: ((wsX1_followPath_r1 ++ wsX1_followPath_r2) ++ wsX10)
def wsX1_planMost_r1 : List Cond := [Cond.methodLink RX1 52 yX1_findPath, Cond.instanceMethod yX1_findPath, Cond.selects RX1 yX1_findPath yX1_findPath, Cond.initialized RX1, Cond.code yX1_findPath cX1_findPath 10 (some .boolean), Cond.fieldLink RX1 18 "PeerCircle$Planner" "queue" "[I", Cond.fieldLink RX1 11 "PeerCircle$Planner" "ways" "[I", Cond.fieldLink RX1 15 "PeerCircle$Planner" "cameFrom" "[I", Cond.methodLink RX1 70 yX1_lowestBit, Cond.static yX1_lowestBit, Cond.code yX1_lowestBit cX1_lowestBit 1 (some .int), Cond.methodLink RX1 65 yJ6_bitCount_0f7a4, Cond.static yJ6_bitCount_0f7a4, Cond.initialized RJ6, Cond.code yJ6_bitCount_0f7a4 cJ6_bitCount_0f7a4 1 (some .int), Cond.constant RJ6 265 (1431655765), Cond.constant RJ6 266 (858993459), Cond.constant RJ6 267 (252645135), Cond.static yX5_hasBit, Cond.initialized RX5, Cond.code yX5_hasBit cX5_hasBit 2 (some .boolean), Cond.methodLink RX1 56 yX1_followPath, Cond.instanceMethod yX1_followPath, Cond.selects RX1 yX1_followPath yX1_followPath]
def wsX1_planMost_r2 : List Cond := [Cond.code yX1_followPath cX1_followPath 6 none, Cond.methodLink RX1 73 yX1_moveVisit, Cond.instanceMethod yX1_moveVisit, Cond.selects RX1 yX1_moveVisit yX1_moveVisit, Cond.code yX1_moveVisit cX1_moveVisit 3 none, Cond.static yX5_isBelow, Cond.code yX5_isBelow cX5_isBelow 2 (some .boolean), Cond.methodLink RX1 62 yX1_addVisit, Cond.instanceMethod yX1_addVisit, Cond.selects RX1 yX1_addVisit yX1_addVisit, Cond.code yX1_addVisit cX1_addVisit 3 none, Cond.fieldLink RX1 21 "PeerCircle$Planner" "visitors" "[I", Cond.fieldLink RX1 24 "PeerCircle$Planner" "visitsMade" "[I", Cond.methodLink RX1 40 yX1_placeVisited, Cond.static yX1_placeVisited, Cond.code yX1_placeVisited cX1_placeVisited 1 (some .int), Cond.methodLink RX1 44 yX1_setWay, Cond.instanceMethod yX1_setWay, Cond.selects RX1 yX1_setWay yX1_setWay, Cond.code yX1_setWay cX1_setWay 4 none, Cond.methodLink RX1 48 yX1_openByLimits, Cond.instanceMethod yX1_openByLimits, Cond.selects RX1 yX1_openByLimits yX1_openByLimits, Cond.code yX1_openByLimits cX1_openByLimits 5 none]
def wsX1_planMost_r3 : List Cond := [Cond.fieldLink RX1 31 "PeerCircle$Planner" "mostVisits" "I", Cond.fieldLink RX1 27 "PeerCircle$Planner" "mostVisitors" "I", Cond.methodLink RX1 79 yX1_dropVisit, Cond.instanceMethod yX1_dropVisit, Cond.selects RX1 yX1_dropVisit yX1_dropVisit, Cond.code yX1_dropVisit cX1_dropVisit 3 none]
def wsX1_planMost : List Cond := .code yX1_planMost cX1_planMost 2 none :: ((wsX1_planMost_r1 ++ (wsX1_planMost_r2 ++ wsX1_planMost_r3)) ++ wsX10)
def wsX1_planLeastRow_r1 : List Cond := [Cond.fieldLink RX1 11 "PeerCircle$Planner" "ways" "[I", Cond.methodLink RX1 40 yX1_placeVisited, Cond.static yX1_placeVisited, Cond.initialized RX1, Cond.code yX1_placeVisited cX1_placeVisited 1 (some .int), Cond.static yX5_hasBit, Cond.initialized RX5, Cond.code yX5_hasBit cX5_hasBit 2 (some .boolean), Cond.methodLink RX1 52 yX1_findPath, Cond.instanceMethod yX1_findPath, Cond.selects RX1 yX1_findPath yX1_findPath, Cond.code yX1_findPath cX1_findPath 10 (some .boolean), Cond.fieldLink RX1 18 "PeerCircle$Planner" "queue" "[I", Cond.fieldLink RX1 15 "PeerCircle$Planner" "cameFrom" "[I", Cond.methodLink RX1 70 yX1_lowestBit, Cond.static yX1_lowestBit, Cond.code yX1_lowestBit cX1_lowestBit 1 (some .int), Cond.methodLink RX1 65 yJ6_bitCount_0f7a4, Cond.static yJ6_bitCount_0f7a4, Cond.initialized RJ6, Cond.code yJ6_bitCount_0f7a4 cJ6_bitCount_0f7a4 1 (some .int), Cond.constant RJ6 265 (1431655765), Cond.constant RJ6 266 (858993459), Cond.constant RJ6 267 (252645135)]
def wsX1_planLeastRow_r2 : List Cond := [Cond.methodLink RX1 56 yX1_followPath, Cond.instanceMethod yX1_followPath, Cond.selects RX1 yX1_followPath yX1_followPath, Cond.code yX1_followPath cX1_followPath 6 none, Cond.methodLink RX1 73 yX1_moveVisit, Cond.instanceMethod yX1_moveVisit, Cond.selects RX1 yX1_moveVisit yX1_moveVisit, Cond.code yX1_moveVisit cX1_moveVisit 3 none, Cond.static yX5_isBelow, Cond.code yX5_isBelow cX5_isBelow 2 (some .boolean), Cond.methodLink RX1 62 yX1_addVisit, Cond.instanceMethod yX1_addVisit, Cond.selects RX1 yX1_addVisit yX1_addVisit, Cond.code yX1_addVisit cX1_addVisit 3 none, Cond.fieldLink RX1 21 "PeerCircle$Planner" "visitors" "[I", Cond.fieldLink RX1 24 "PeerCircle$Planner" "visitsMade" "[I", Cond.methodLink RX1 44 yX1_setWay, Cond.instanceMethod yX1_setWay, Cond.selects RX1 yX1_setWay yX1_setWay, Cond.code yX1_setWay cX1_setWay 4 none, Cond.methodLink RX1 48 yX1_openByLimits, Cond.instanceMethod yX1_openByLimits, Cond.selects RX1 yX1_openByLimits yX1_openByLimits, Cond.code yX1_openByLimits cX1_openByLimits 5 none]
def wsX1_planLeastRow_r3 : List Cond := [Cond.fieldLink RX1 31 "PeerCircle$Planner" "mostVisits" "I", Cond.fieldLink RX1 27 "PeerCircle$Planner" "mostVisitors" "I", Cond.methodLink RX1 79 yX1_dropVisit, Cond.instanceMethod yX1_dropVisit, Cond.selects RX1 yX1_dropVisit yX1_dropVisit, Cond.code yX1_dropVisit cX1_dropVisit 3 none]
def wsX1_planLeastRow : List Cond := .code yX1_planLeastRow cX1_planLeastRow 5 none :: ((wsX1_planLeastRow_r1 ++ (wsX1_planLeastRow_r2 ++ wsX1_planLeastRow_r3)) ++ wsX10)
def wsX2_init : List Cond := .code yX2_init cX2_init 1 none :: ([.methodLink RX2 3 objectInit, .instanceMethod objectInit, .code objectInit ⟨#[0xb1]⟩ 1 none, .arrayClass .int, .fieldLink RX2 11 "PeerCircle$Rules" "numbers" "[I", .fieldLink RX2 15 "PeerCircle$Rules" "draft" "[I", .fieldLink RX2 18 "PeerCircle$Rules" "place" "I", .fieldLink RX2 22 "PeerCircle$Rules" "AT_FIRST" "[I", .methodLink RX2 25 arraycopyName, .native arraycopyName, .static arraycopyName, .initialized "java/lang/System"] ++ wsX20)
def wsX3_size : List Cond := .code yX3_size cX3_size 1 (some .int) :: ([.fieldLink RX3 13 "PeerCircle$Tape" "size" "I"] ++ wsX30)
def wsX3_at : List Cond := .code yX3_at cX3_at 2 (some .int) :: ([.fieldLink RX3 13 "PeerCircle$Tape" "size" "I", .fieldLink RX3 9 "PeerCircle$Tape" "bytes" "[I", .static yX5_isBelow, .initialized RX5, .code yX5_isBelow cX5_isBelow 2 (some .boolean)] ++ wsX30)
def wsJ0_isLatin1_aae02 : List Cond := .code yJ0_isLatin1_aae02 cJ0_isLatin1_aae02 1 (some .boolean) :: ([.fieldLink RJ0 38 "java/lang/String" "COMPACT_STRINGS" "Z", .fieldLink RJ0 15 "java/lang/String" "coder" "B"])
def wsJ0_coder_7d493 : List Cond := .code yJ0_coder_7d493 cJ0_coder_7d493 1 (some .byte) :: ([.fieldLink RJ0 38 "java/lang/String" "COMPACT_STRINGS" "Z", .fieldLink RJ0 15 "java/lang/String" "coder" "B"])
def wsJ0_length_8abf5 : List Cond := .code yJ0_length_8abf5 cJ0_length_8abf5 1 (some .int) :: ([.fieldLink RJ0 9 "java/lang/String" "value" "[B", .methodLink RJ0 335 yJ0_coder_7d493, .instanceMethod yJ0_coder_7d493, .selects RJ0 yJ0_coder_7d493 yJ0_coder_7d493, .initialized RJ0, .code yJ0_coder_7d493 cJ0_coder_7d493 1 (some .byte), .fieldLink RJ0 38 "java/lang/String" "COMPACT_STRINGS" "Z", .fieldLink RJ0 15 "java/lang/String" "coder" "B"])
def wsJ1_canEncode_9a6ad : List Cond := .code yJ1_canEncode_9a6ad cJ1_canEncode_9a6ad 1 (some .boolean) :: ([])
def wsJ1_indexOfChar_4cfef : List Cond := .code yJ1_indexOfChar_4cfef cJ1_indexOfChar_4cfef 6 (some .int) :: ([])
def wsJ1_indexOf_4cfef : List Cond := .code yJ1_indexOf_4cfef cJ1_indexOf_4cfef 4 (some .int) :: ([.methodLink RJ1 92 Lib.Math.max.name, .static Lib.Math.max.name, .initialized "java/lang/Math", .code Lib.Math.max.name Lib.Math.max.code 2 (some .int), .methodLink RJ1 38 Lib.Math.min.name, .static Lib.Math.min.name, .code Lib.Math.min.name Lib.Math.min.code 2 (some .int), .methodLink RJ1 88 yJ1_canEncode_9a6ad, .static yJ1_canEncode_9a6ad, .initialized RJ1, .code yJ1_canEncode_9a6ad cJ1_canEncode_9a6ad 1 (some .boolean), .methodLink RJ1 95 yJ1_indexOfChar_4cfef, .static yJ1_indexOfChar_4cfef, .code yJ1_indexOfChar_4cfef cJ1_indexOfChar_4cfef 6 (some .int)])
def wsJ2_length_9d52b : List Cond := .code yJ2_length_9d52b cJ2_length_9d52b 1 (some .int) :: ([])
def wsJ3_checkFromToIndex_8c36e : List Cond := .code yJ3_checkFromToIndex_8c36e cJ3_checkFromToIndex_8c36e 4 (some .int) :: ([])
def wsJ0_checkBoundsBeginEnd_23922 : List Cond := .code yJ0_checkBoundsBeginEnd_23922 cJ0_checkBoundsBeginEnd_23922 3 none :: ([.fieldLink RJ0 1053 "jdk/internal/util/Preconditions" "SIOOBE_FORMATTER" "Ljava/util/function/BiFunction;", .methodLink RJ0 1062 yJ3_checkFromToIndex_8c36e, .static yJ3_checkFromToIndex_8c36e, .initialized RJ3, .code yJ3_checkFromToIndex_8c36e cJ3_checkFromToIndex_8c36e 4 (some .int)])
def wsJ2_checkBoundsBeginEnd_d044e : List Cond := .code yJ2_checkBoundsBeginEnd_d044e cJ2_checkBoundsBeginEnd_d044e 3 none :: ([.methodLink RJ2 48 yJ2_length_9d52b, .static yJ2_length_9d52b, .initialized RJ2, .code yJ2_length_9d52b cJ2_length_9d52b 1 (some .int), .methodLink RJ2 241 yJ0_checkBoundsBeginEnd_23922, .static yJ0_checkBoundsBeginEnd_23922, .initialized RJ0, .code yJ0_checkBoundsBeginEnd_23922 cJ0_checkBoundsBeginEnd_23922 3 none, .fieldLink RJ0 1053 "jdk/internal/util/Preconditions" "SIOOBE_FORMATTER" "Ljava/util/function/BiFunction;", .methodLink RJ0 1062 yJ3_checkFromToIndex_8c36e, .static yJ3_checkFromToIndex_8c36e, .initialized RJ3, .code yJ3_checkFromToIndex_8c36e cJ3_checkFromToIndex_8c36e 4 (some .int)])
def wsJ2_getChar_3b067 : List Cond := .code yJ2_getChar_3b067 cJ2_getChar_3b067 2 (some .char) :: ([.fieldLink RJ2 44 "java/lang/StringUTF16" "$assertionsDisabled" "Z", .fieldLink RJ2 59 "java/lang/StringUTF16" "HI_BYTE_SHIFT" "I", .fieldLink RJ2 63 "java/lang/StringUTF16" "LO_BYTE_SHIFT" "I", .methodLink RJ2 48 yJ2_length_9d52b, .static yJ2_length_9d52b, .initialized RJ2, .code yJ2_length_9d52b cJ2_length_9d52b 1 (some .int)])
def wsJ2_indexOfCharUnsafe_4cfef : List Cond := .code yJ2_indexOfCharUnsafe_4cfef cJ2_indexOfCharUnsafe_4cfef 5 (some .int) :: ([.methodLink RJ2 71 yJ2_getChar_3b067, .static yJ2_getChar_3b067, .initialized RJ2, .code yJ2_getChar_3b067 cJ2_getChar_3b067 2 (some .char), .fieldLink RJ2 44 "java/lang/StringUTF16" "$assertionsDisabled" "Z", .fieldLink RJ2 59 "java/lang/StringUTF16" "HI_BYTE_SHIFT" "I", .fieldLink RJ2 63 "java/lang/StringUTF16" "LO_BYTE_SHIFT" "I", .methodLink RJ2 48 yJ2_length_9d52b, .static yJ2_length_9d52b, .code yJ2_length_9d52b cJ2_length_9d52b 1 (some .int)])
def wsJ2_indexOfChar_4cfef_r1 : List Cond := [Cond.methodLink RJ2 96 yJ2_checkBoundsBeginEnd_d044e, Cond.static yJ2_checkBoundsBeginEnd_d044e, Cond.initialized RJ2, Cond.code yJ2_checkBoundsBeginEnd_d044e cJ2_checkBoundsBeginEnd_d044e 3 none, Cond.methodLink RJ2 48 yJ2_length_9d52b, Cond.static yJ2_length_9d52b, Cond.code yJ2_length_9d52b cJ2_length_9d52b 1 (some .int), Cond.methodLink RJ2 241 yJ0_checkBoundsBeginEnd_23922, Cond.static yJ0_checkBoundsBeginEnd_23922, Cond.initialized RJ0, Cond.code yJ0_checkBoundsBeginEnd_23922 cJ0_checkBoundsBeginEnd_23922 3 none, Cond.fieldLink RJ0 1053 "jdk/internal/util/Preconditions" "SIOOBE_FORMATTER" "Ljava/util/function/BiFunction;", Cond.methodLink RJ0 1062 yJ3_checkFromToIndex_8c36e, Cond.static yJ3_checkFromToIndex_8c36e, Cond.initialized RJ3, Cond.code yJ3_checkFromToIndex_8c36e cJ3_checkFromToIndex_8c36e 4 (some .int), Cond.methodLink RJ2 244 yJ2_indexOfCharUnsafe_4cfef, Cond.static yJ2_indexOfCharUnsafe_4cfef, Cond.code yJ2_indexOfCharUnsafe_4cfef cJ2_indexOfCharUnsafe_4cfef 5 (some .int), Cond.methodLink RJ2 71 yJ2_getChar_3b067, Cond.static yJ2_getChar_3b067, Cond.code yJ2_getChar_3b067 cJ2_getChar_3b067 2 (some .char), Cond.fieldLink RJ2 44 "java/lang/StringUTF16" "$assertionsDisabled" "Z", Cond.fieldLink RJ2 59 "java/lang/StringUTF16" "HI_BYTE_SHIFT" "I"]
def wsJ2_indexOfChar_4cfef_r2 : List Cond := [Cond.fieldLink RJ2 63 "java/lang/StringUTF16" "LO_BYTE_SHIFT" "I"]
def wsJ2_indexOfChar_4cfef : List Cond := .code yJ2_indexOfChar_4cfef cJ2_indexOfChar_4cfef 4 (some .int) :: ((wsJ2_indexOfChar_4cfef_r1 ++ wsJ2_indexOfChar_4cfef_r2))
def wsJ11_isValidCodePoint_9a6ad : List Cond := .code yJ11_isValidCodePoint_9a6ad cJ11_isValidCodePoint_9a6ad 2 (some .boolean) :: ([])
def wsJ11_highSurrogate_5068e : List Cond := .code yJ11_highSurrogate_5068e cJ11_highSurrogate_5068e 1 (some .char) :: ([.constant RJ11 110 (55232)])
def wsJ11_lowSurrogate_5068e : List Cond := .code yJ11_lowSurrogate_5068e cJ11_lowSurrogate_5068e 1 (some .char) :: ([.constant RJ11 76 (56320)])
def wsJ2_indexOfSupplementary_4cfef_r1 : List Cond := [Cond.methodLink RJ2 164 yJ11_isValidCodePoint_9a6ad, Cond.static yJ11_isValidCodePoint_9a6ad, Cond.initialized RJ11, Cond.code yJ11_isValidCodePoint_9a6ad cJ11_isValidCodePoint_9a6ad 2 (some .boolean), Cond.methodLink RJ2 157 yJ11_highSurrogate_5068e, Cond.static yJ11_highSurrogate_5068e, Cond.code yJ11_highSurrogate_5068e cJ11_highSurrogate_5068e 1 (some .char), Cond.constant RJ11 110 (55232), Cond.methodLink RJ2 161 yJ11_lowSurrogate_5068e, Cond.static yJ11_lowSurrogate_5068e, Cond.code yJ11_lowSurrogate_5068e cJ11_lowSurrogate_5068e 1 (some .char), Cond.constant RJ11 76 (56320), Cond.methodLink RJ2 96 yJ2_checkBoundsBeginEnd_d044e, Cond.static yJ2_checkBoundsBeginEnd_d044e, Cond.initialized RJ2, Cond.code yJ2_checkBoundsBeginEnd_d044e cJ2_checkBoundsBeginEnd_d044e 3 none, Cond.methodLink RJ2 48 yJ2_length_9d52b, Cond.static yJ2_length_9d52b, Cond.code yJ2_length_9d52b cJ2_length_9d52b 1 (some .int), Cond.methodLink RJ2 241 yJ0_checkBoundsBeginEnd_23922, Cond.static yJ0_checkBoundsBeginEnd_23922, Cond.initialized RJ0, Cond.code yJ0_checkBoundsBeginEnd_23922 cJ0_checkBoundsBeginEnd_23922 3 none, Cond.fieldLink RJ0 1053 "jdk/internal/util/Preconditions" "SIOOBE_FORMATTER" "Ljava/util/function/BiFunction;"]
def wsJ2_indexOfSupplementary_4cfef_r2 : List Cond := [Cond.methodLink RJ0 1062 yJ3_checkFromToIndex_8c36e, Cond.static yJ3_checkFromToIndex_8c36e, Cond.initialized RJ3, Cond.code yJ3_checkFromToIndex_8c36e cJ3_checkFromToIndex_8c36e 4 (some .int), Cond.methodLink RJ2 71 yJ2_getChar_3b067, Cond.static yJ2_getChar_3b067, Cond.code yJ2_getChar_3b067 cJ2_getChar_3b067 2 (some .char), Cond.fieldLink RJ2 44 "java/lang/StringUTF16" "$assertionsDisabled" "Z", Cond.fieldLink RJ2 59 "java/lang/StringUTF16" "HI_BYTE_SHIFT" "I", Cond.fieldLink RJ2 63 "java/lang/StringUTF16" "LO_BYTE_SHIFT" "I"]
def wsJ2_indexOfSupplementary_4cfef : List Cond := .code yJ2_indexOfSupplementary_4cfef cJ2_indexOfSupplementary_4cfef 7 (some .int) :: ((wsJ2_indexOfSupplementary_4cfef_r1 ++ wsJ2_indexOfSupplementary_4cfef_r2))
def wsJ2_indexOf_4cfef_r1 : List Cond := [Cond.methodLink RJ2 224 Lib.Math.max.name, Cond.static Lib.Math.max.name, Cond.initialized "java/lang/Math", Cond.code Lib.Math.max.name Lib.Math.max.code 2 (some .int), Cond.methodLink RJ2 183 Lib.Math.min.name, Cond.static Lib.Math.min.name, Cond.code Lib.Math.min.name Lib.Math.min.code 2 (some .int), Cond.constant RJ2 227 (65536), Cond.methodLink RJ2 228 yJ2_indexOfChar_4cfef, Cond.static yJ2_indexOfChar_4cfef, Cond.initialized RJ2, Cond.code yJ2_indexOfChar_4cfef cJ2_indexOfChar_4cfef 4 (some .int), Cond.methodLink RJ2 96 yJ2_checkBoundsBeginEnd_d044e, Cond.static yJ2_checkBoundsBeginEnd_d044e, Cond.code yJ2_checkBoundsBeginEnd_d044e cJ2_checkBoundsBeginEnd_d044e 3 none, Cond.methodLink RJ2 48 yJ2_length_9d52b, Cond.static yJ2_length_9d52b, Cond.code yJ2_length_9d52b cJ2_length_9d52b 1 (some .int), Cond.methodLink RJ2 241 yJ0_checkBoundsBeginEnd_23922, Cond.static yJ0_checkBoundsBeginEnd_23922, Cond.initialized RJ0, Cond.code yJ0_checkBoundsBeginEnd_23922 cJ0_checkBoundsBeginEnd_23922 3 none, Cond.fieldLink RJ0 1053 "jdk/internal/util/Preconditions" "SIOOBE_FORMATTER" "Ljava/util/function/BiFunction;", Cond.methodLink RJ0 1062 yJ3_checkFromToIndex_8c36e]
def wsJ2_indexOf_4cfef_r2 : List Cond := [Cond.static yJ3_checkFromToIndex_8c36e, Cond.initialized RJ3, Cond.code yJ3_checkFromToIndex_8c36e cJ3_checkFromToIndex_8c36e 4 (some .int), Cond.methodLink RJ2 244 yJ2_indexOfCharUnsafe_4cfef, Cond.static yJ2_indexOfCharUnsafe_4cfef, Cond.code yJ2_indexOfCharUnsafe_4cfef cJ2_indexOfCharUnsafe_4cfef 5 (some .int), Cond.methodLink RJ2 71 yJ2_getChar_3b067, Cond.static yJ2_getChar_3b067, Cond.code yJ2_getChar_3b067 cJ2_getChar_3b067 2 (some .char), Cond.fieldLink RJ2 44 "java/lang/StringUTF16" "$assertionsDisabled" "Z", Cond.fieldLink RJ2 59 "java/lang/StringUTF16" "HI_BYTE_SHIFT" "I", Cond.fieldLink RJ2 63 "java/lang/StringUTF16" "LO_BYTE_SHIFT" "I", Cond.methodLink RJ2 232 yJ2_indexOfSupplementary_4cfef, Cond.static yJ2_indexOfSupplementary_4cfef, Cond.code yJ2_indexOfSupplementary_4cfef cJ2_indexOfSupplementary_4cfef 7 (some .int), Cond.methodLink RJ2 164 yJ11_isValidCodePoint_9a6ad, Cond.static yJ11_isValidCodePoint_9a6ad, Cond.initialized RJ11, Cond.code yJ11_isValidCodePoint_9a6ad cJ11_isValidCodePoint_9a6ad 2 (some .boolean), Cond.methodLink RJ2 157 yJ11_highSurrogate_5068e, Cond.static yJ11_highSurrogate_5068e, Cond.code yJ11_highSurrogate_5068e cJ11_highSurrogate_5068e 1 (some .char), Cond.constant RJ11 110 (55232), Cond.methodLink RJ2 161 yJ11_lowSurrogate_5068e]
def wsJ2_indexOf_4cfef_r3 : List Cond := [Cond.static yJ11_lowSurrogate_5068e, Cond.code yJ11_lowSurrogate_5068e cJ11_lowSurrogate_5068e 1 (some .char), Cond.constant RJ11 76 (56320)]
def wsJ2_indexOf_4cfef : List Cond := .code yJ2_indexOf_4cfef cJ2_indexOf_4cfef 4 (some .int) :: ((wsJ2_indexOf_4cfef_r1 ++ (wsJ2_indexOf_4cfef_r2 ++ wsJ2_indexOf_4cfef_r3)))
def wsJ0_indexOf_7cf53_r1 : List Cond := [Cond.fieldLink RJ0 9 "java/lang/String" "value" "[B", Cond.methodLink RJ0 492 yJ0_isLatin1_aae02, Cond.instanceMethod yJ0_isLatin1_aae02, Cond.selects RJ0 yJ0_isLatin1_aae02 yJ0_isLatin1_aae02, Cond.initialized RJ0, Cond.code yJ0_isLatin1_aae02 cJ0_isLatin1_aae02 1 (some .boolean), Cond.fieldLink RJ0 38 "java/lang/String" "COMPACT_STRINGS" "Z", Cond.fieldLink RJ0 15 "java/lang/String" "coder" "B", Cond.methodLink RJ0 505 yJ0_length_8abf5, Cond.instanceMethod yJ0_length_8abf5, Cond.selects RJ0 yJ0_length_8abf5 yJ0_length_8abf5, Cond.code yJ0_length_8abf5 cJ0_length_8abf5 1 (some .int), Cond.methodLink RJ0 335 yJ0_coder_7d493, Cond.instanceMethod yJ0_coder_7d493, Cond.selects RJ0 yJ0_coder_7d493 yJ0_coder_7d493, Cond.code yJ0_coder_7d493 cJ0_coder_7d493 1 (some .byte), Cond.methodLink RJ0 637 yJ1_indexOf_4cfef, Cond.static yJ1_indexOf_4cfef, Cond.initialized RJ1, Cond.code yJ1_indexOf_4cfef cJ1_indexOf_4cfef 4 (some .int), Cond.methodLink RJ1 92 Lib.Math.max.name, Cond.static Lib.Math.max.name, Cond.initialized "java/lang/Math", Cond.code Lib.Math.max.name Lib.Math.max.code 2 (some .int)]
def wsJ0_indexOf_7cf53_r2 : List Cond := [Cond.methodLink RJ1 38 Lib.Math.min.name, Cond.static Lib.Math.min.name, Cond.code Lib.Math.min.name Lib.Math.min.code 2 (some .int), Cond.methodLink RJ1 88 yJ1_canEncode_9a6ad, Cond.static yJ1_canEncode_9a6ad, Cond.code yJ1_canEncode_9a6ad cJ1_canEncode_9a6ad 1 (some .boolean), Cond.methodLink RJ1 95 yJ1_indexOfChar_4cfef, Cond.static yJ1_indexOfChar_4cfef, Cond.code yJ1_indexOfChar_4cfef cJ1_indexOfChar_4cfef 6 (some .int), Cond.methodLink RJ0 640 yJ2_indexOf_4cfef, Cond.static yJ2_indexOf_4cfef, Cond.initialized RJ2, Cond.code yJ2_indexOf_4cfef cJ2_indexOf_4cfef 4 (some .int), Cond.methodLink RJ2 224 Lib.Math.max.name, Cond.methodLink RJ2 183 Lib.Math.min.name, Cond.constant RJ2 227 (65536), Cond.methodLink RJ2 228 yJ2_indexOfChar_4cfef, Cond.static yJ2_indexOfChar_4cfef, Cond.code yJ2_indexOfChar_4cfef cJ2_indexOfChar_4cfef 4 (some .int), Cond.methodLink RJ2 96 yJ2_checkBoundsBeginEnd_d044e, Cond.static yJ2_checkBoundsBeginEnd_d044e, Cond.code yJ2_checkBoundsBeginEnd_d044e cJ2_checkBoundsBeginEnd_d044e 3 none, Cond.methodLink RJ2 48 yJ2_length_9d52b, Cond.static yJ2_length_9d52b]
def wsJ0_indexOf_7cf53_r3 : List Cond := [Cond.code yJ2_length_9d52b cJ2_length_9d52b 1 (some .int), Cond.methodLink RJ2 241 yJ0_checkBoundsBeginEnd_23922, Cond.static yJ0_checkBoundsBeginEnd_23922, Cond.code yJ0_checkBoundsBeginEnd_23922 cJ0_checkBoundsBeginEnd_23922 3 none, Cond.fieldLink RJ0 1053 "jdk/internal/util/Preconditions" "SIOOBE_FORMATTER" "Ljava/util/function/BiFunction;", Cond.methodLink RJ0 1062 yJ3_checkFromToIndex_8c36e, Cond.static yJ3_checkFromToIndex_8c36e, Cond.initialized RJ3, Cond.code yJ3_checkFromToIndex_8c36e cJ3_checkFromToIndex_8c36e 4 (some .int), Cond.methodLink RJ2 244 yJ2_indexOfCharUnsafe_4cfef, Cond.static yJ2_indexOfCharUnsafe_4cfef, Cond.code yJ2_indexOfCharUnsafe_4cfef cJ2_indexOfCharUnsafe_4cfef 5 (some .int), Cond.methodLink RJ2 71 yJ2_getChar_3b067, Cond.static yJ2_getChar_3b067, Cond.code yJ2_getChar_3b067 cJ2_getChar_3b067 2 (some .char), Cond.fieldLink RJ2 44 "java/lang/StringUTF16" "$assertionsDisabled" "Z", Cond.fieldLink RJ2 59 "java/lang/StringUTF16" "HI_BYTE_SHIFT" "I", Cond.fieldLink RJ2 63 "java/lang/StringUTF16" "LO_BYTE_SHIFT" "I", Cond.methodLink RJ2 232 yJ2_indexOfSupplementary_4cfef, Cond.static yJ2_indexOfSupplementary_4cfef, Cond.code yJ2_indexOfSupplementary_4cfef cJ2_indexOfSupplementary_4cfef 7 (some .int), Cond.methodLink RJ2 164 yJ11_isValidCodePoint_9a6ad, Cond.static yJ11_isValidCodePoint_9a6ad, Cond.initialized RJ11]
def wsJ0_indexOf_7cf53_r4 : List Cond := [Cond.code yJ11_isValidCodePoint_9a6ad cJ11_isValidCodePoint_9a6ad 2 (some .boolean), Cond.methodLink RJ2 157 yJ11_highSurrogate_5068e, Cond.static yJ11_highSurrogate_5068e, Cond.code yJ11_highSurrogate_5068e cJ11_highSurrogate_5068e 1 (some .char), Cond.constant RJ11 110 (55232), Cond.methodLink RJ2 161 yJ11_lowSurrogate_5068e, Cond.static yJ11_lowSurrogate_5068e, Cond.code yJ11_lowSurrogate_5068e cJ11_lowSurrogate_5068e 1 (some .char), Cond.constant RJ11 76 (56320)]
def wsJ0_indexOf_7cf53 : List Cond := .code yJ0_indexOf_7cf53 cJ0_indexOf_7cf53 3 (some .int) :: ((wsJ0_indexOf_7cf53_r1 ++ (wsJ0_indexOf_7cf53_r2 ++ (wsJ0_indexOf_7cf53_r3 ++ wsJ0_indexOf_7cf53_r4))))
def wsJ0_indexOf_0f7a4_r1 : List Cond := [Cond.methodLink RJ0 633 yJ0_indexOf_7cf53, Cond.instanceMethod yJ0_indexOf_7cf53, Cond.selects RJ0 yJ0_indexOf_7cf53 yJ0_indexOf_7cf53, Cond.initialized RJ0, Cond.code yJ0_indexOf_7cf53 cJ0_indexOf_7cf53 3 (some .int), Cond.fieldLink RJ0 9 "java/lang/String" "value" "[B", Cond.methodLink RJ0 492 yJ0_isLatin1_aae02, Cond.instanceMethod yJ0_isLatin1_aae02, Cond.selects RJ0 yJ0_isLatin1_aae02 yJ0_isLatin1_aae02, Cond.code yJ0_isLatin1_aae02 cJ0_isLatin1_aae02 1 (some .boolean), Cond.fieldLink RJ0 38 "java/lang/String" "COMPACT_STRINGS" "Z", Cond.fieldLink RJ0 15 "java/lang/String" "coder" "B", Cond.methodLink RJ0 505 yJ0_length_8abf5, Cond.instanceMethod yJ0_length_8abf5, Cond.selects RJ0 yJ0_length_8abf5 yJ0_length_8abf5, Cond.code yJ0_length_8abf5 cJ0_length_8abf5 1 (some .int), Cond.methodLink RJ0 335 yJ0_coder_7d493, Cond.instanceMethod yJ0_coder_7d493, Cond.selects RJ0 yJ0_coder_7d493 yJ0_coder_7d493, Cond.code yJ0_coder_7d493 cJ0_coder_7d493 1 (some .byte), Cond.methodLink RJ0 637 yJ1_indexOf_4cfef, Cond.static yJ1_indexOf_4cfef, Cond.initialized RJ1, Cond.code yJ1_indexOf_4cfef cJ1_indexOf_4cfef 4 (some .int)]
def wsJ0_indexOf_0f7a4_r2 : List Cond := [Cond.methodLink RJ1 92 Lib.Math.max.name, Cond.static Lib.Math.max.name, Cond.initialized "java/lang/Math", Cond.code Lib.Math.max.name Lib.Math.max.code 2 (some .int), Cond.methodLink RJ1 38 Lib.Math.min.name, Cond.static Lib.Math.min.name, Cond.code Lib.Math.min.name Lib.Math.min.code 2 (some .int), Cond.methodLink RJ1 88 yJ1_canEncode_9a6ad, Cond.static yJ1_canEncode_9a6ad, Cond.code yJ1_canEncode_9a6ad cJ1_canEncode_9a6ad 1 (some .boolean), Cond.methodLink RJ1 95 yJ1_indexOfChar_4cfef, Cond.static yJ1_indexOfChar_4cfef, Cond.code yJ1_indexOfChar_4cfef cJ1_indexOfChar_4cfef 6 (some .int), Cond.methodLink RJ0 640 yJ2_indexOf_4cfef, Cond.static yJ2_indexOf_4cfef, Cond.initialized RJ2, Cond.code yJ2_indexOf_4cfef cJ2_indexOf_4cfef 4 (some .int), Cond.methodLink RJ2 224 Lib.Math.max.name, Cond.methodLink RJ2 183 Lib.Math.min.name, Cond.constant RJ2 227 (65536), Cond.methodLink RJ2 228 yJ2_indexOfChar_4cfef, Cond.static yJ2_indexOfChar_4cfef, Cond.code yJ2_indexOfChar_4cfef cJ2_indexOfChar_4cfef 4 (some .int), Cond.methodLink RJ2 96 yJ2_checkBoundsBeginEnd_d044e]
def wsJ0_indexOf_0f7a4_r3 : List Cond := [Cond.static yJ2_checkBoundsBeginEnd_d044e, Cond.code yJ2_checkBoundsBeginEnd_d044e cJ2_checkBoundsBeginEnd_d044e 3 none, Cond.methodLink RJ2 48 yJ2_length_9d52b, Cond.static yJ2_length_9d52b, Cond.code yJ2_length_9d52b cJ2_length_9d52b 1 (some .int), Cond.methodLink RJ2 241 yJ0_checkBoundsBeginEnd_23922, Cond.static yJ0_checkBoundsBeginEnd_23922, Cond.code yJ0_checkBoundsBeginEnd_23922 cJ0_checkBoundsBeginEnd_23922 3 none, Cond.fieldLink RJ0 1053 "jdk/internal/util/Preconditions" "SIOOBE_FORMATTER" "Ljava/util/function/BiFunction;", Cond.methodLink RJ0 1062 yJ3_checkFromToIndex_8c36e, Cond.static yJ3_checkFromToIndex_8c36e, Cond.initialized RJ3, Cond.code yJ3_checkFromToIndex_8c36e cJ3_checkFromToIndex_8c36e 4 (some .int), Cond.methodLink RJ2 244 yJ2_indexOfCharUnsafe_4cfef, Cond.static yJ2_indexOfCharUnsafe_4cfef, Cond.code yJ2_indexOfCharUnsafe_4cfef cJ2_indexOfCharUnsafe_4cfef 5 (some .int), Cond.methodLink RJ2 71 yJ2_getChar_3b067, Cond.static yJ2_getChar_3b067, Cond.code yJ2_getChar_3b067 cJ2_getChar_3b067 2 (some .char), Cond.fieldLink RJ2 44 "java/lang/StringUTF16" "$assertionsDisabled" "Z", Cond.fieldLink RJ2 59 "java/lang/StringUTF16" "HI_BYTE_SHIFT" "I", Cond.fieldLink RJ2 63 "java/lang/StringUTF16" "LO_BYTE_SHIFT" "I", Cond.methodLink RJ2 232 yJ2_indexOfSupplementary_4cfef, Cond.static yJ2_indexOfSupplementary_4cfef]
def wsJ0_indexOf_0f7a4_r4 : List Cond := [Cond.code yJ2_indexOfSupplementary_4cfef cJ2_indexOfSupplementary_4cfef 7 (some .int), Cond.methodLink RJ2 164 yJ11_isValidCodePoint_9a6ad, Cond.static yJ11_isValidCodePoint_9a6ad, Cond.initialized RJ11, Cond.code yJ11_isValidCodePoint_9a6ad cJ11_isValidCodePoint_9a6ad 2 (some .boolean), Cond.methodLink RJ2 157 yJ11_highSurrogate_5068e, Cond.static yJ11_highSurrogate_5068e, Cond.code yJ11_highSurrogate_5068e cJ11_highSurrogate_5068e 1 (some .char), Cond.constant RJ11 110 (55232), Cond.methodLink RJ2 161 yJ11_lowSurrogate_5068e, Cond.static yJ11_lowSurrogate_5068e, Cond.code yJ11_lowSurrogate_5068e cJ11_lowSurrogate_5068e 1 (some .char), Cond.constant RJ11 76 (56320)]
def wsJ0_indexOf_0f7a4 : List Cond := .code yJ0_indexOf_0f7a4 cJ0_indexOf_0f7a4 2 (some .int) :: ((wsJ0_indexOf_0f7a4_r1 ++ (wsJ0_indexOf_0f7a4_r2 ++ (wsJ0_indexOf_0f7a4_r3 ++ wsJ0_indexOf_0f7a4_r4))))
def wsX2_kindOf_r1 : List Cond := [Cond.methodLink RX2 71 yJ0_indexOf_0f7a4, Cond.instanceMethod yJ0_indexOf_0f7a4, Cond.selects RJ0 yJ0_indexOf_0f7a4 yJ0_indexOf_0f7a4, Cond.initialized RJ0, Cond.code yJ0_indexOf_0f7a4 cJ0_indexOf_0f7a4 2 (some .int), Cond.methodLink RJ0 633 yJ0_indexOf_7cf53, Cond.instanceMethod yJ0_indexOf_7cf53, Cond.selects RJ0 yJ0_indexOf_7cf53 yJ0_indexOf_7cf53, Cond.code yJ0_indexOf_7cf53 cJ0_indexOf_7cf53 3 (some .int), Cond.fieldLink RJ0 9 "java/lang/String" "value" "[B", Cond.methodLink RJ0 492 yJ0_isLatin1_aae02, Cond.instanceMethod yJ0_isLatin1_aae02, Cond.selects RJ0 yJ0_isLatin1_aae02 yJ0_isLatin1_aae02, Cond.code yJ0_isLatin1_aae02 cJ0_isLatin1_aae02 1 (some .boolean), Cond.fieldLink RJ0 38 "java/lang/String" "COMPACT_STRINGS" "Z", Cond.fieldLink RJ0 15 "java/lang/String" "coder" "B", Cond.methodLink RJ0 505 yJ0_length_8abf5, Cond.instanceMethod yJ0_length_8abf5, Cond.selects RJ0 yJ0_length_8abf5 yJ0_length_8abf5, Cond.code yJ0_length_8abf5 cJ0_length_8abf5 1 (some .int), Cond.methodLink RJ0 335 yJ0_coder_7d493, Cond.instanceMethod yJ0_coder_7d493, Cond.selects RJ0 yJ0_coder_7d493 yJ0_coder_7d493, Cond.code yJ0_coder_7d493 cJ0_coder_7d493 1 (some .byte)]
def wsX2_kindOf_r2 : List Cond := [Cond.methodLink RJ0 637 yJ1_indexOf_4cfef, Cond.static yJ1_indexOf_4cfef, Cond.initialized RJ1, Cond.code yJ1_indexOf_4cfef cJ1_indexOf_4cfef 4 (some .int), Cond.methodLink RJ1 92 Lib.Math.max.name, Cond.static Lib.Math.max.name, Cond.initialized "java/lang/Math", Cond.code Lib.Math.max.name Lib.Math.max.code 2 (some .int), Cond.methodLink RJ1 38 Lib.Math.min.name, Cond.static Lib.Math.min.name, Cond.code Lib.Math.min.name Lib.Math.min.code 2 (some .int), Cond.methodLink RJ1 88 yJ1_canEncode_9a6ad, Cond.static yJ1_canEncode_9a6ad, Cond.code yJ1_canEncode_9a6ad cJ1_canEncode_9a6ad 1 (some .boolean), Cond.methodLink RJ1 95 yJ1_indexOfChar_4cfef, Cond.static yJ1_indexOfChar_4cfef, Cond.code yJ1_indexOfChar_4cfef cJ1_indexOfChar_4cfef 6 (some .int), Cond.methodLink RJ0 640 yJ2_indexOf_4cfef, Cond.static yJ2_indexOf_4cfef, Cond.initialized RJ2, Cond.code yJ2_indexOf_4cfef cJ2_indexOf_4cfef 4 (some .int), Cond.methodLink RJ2 224 Lib.Math.max.name, Cond.methodLink RJ2 183 Lib.Math.min.name, Cond.constant RJ2 227 (65536)]
def wsX2_kindOf_r3 : List Cond := [Cond.methodLink RJ2 228 yJ2_indexOfChar_4cfef, Cond.static yJ2_indexOfChar_4cfef, Cond.code yJ2_indexOfChar_4cfef cJ2_indexOfChar_4cfef 4 (some .int), Cond.methodLink RJ2 96 yJ2_checkBoundsBeginEnd_d044e, Cond.static yJ2_checkBoundsBeginEnd_d044e, Cond.code yJ2_checkBoundsBeginEnd_d044e cJ2_checkBoundsBeginEnd_d044e 3 none, Cond.methodLink RJ2 48 yJ2_length_9d52b, Cond.static yJ2_length_9d52b, Cond.code yJ2_length_9d52b cJ2_length_9d52b 1 (some .int), Cond.methodLink RJ2 241 yJ0_checkBoundsBeginEnd_23922, Cond.static yJ0_checkBoundsBeginEnd_23922, Cond.code yJ0_checkBoundsBeginEnd_23922 cJ0_checkBoundsBeginEnd_23922 3 none, Cond.fieldLink RJ0 1053 "jdk/internal/util/Preconditions" "SIOOBE_FORMATTER" "Ljava/util/function/BiFunction;", Cond.methodLink RJ0 1062 yJ3_checkFromToIndex_8c36e, Cond.static yJ3_checkFromToIndex_8c36e, Cond.initialized RJ3, Cond.code yJ3_checkFromToIndex_8c36e cJ3_checkFromToIndex_8c36e 4 (some .int), Cond.methodLink RJ2 244 yJ2_indexOfCharUnsafe_4cfef, Cond.static yJ2_indexOfCharUnsafe_4cfef, Cond.code yJ2_indexOfCharUnsafe_4cfef cJ2_indexOfCharUnsafe_4cfef 5 (some .int), Cond.methodLink RJ2 71 yJ2_getChar_3b067, Cond.static yJ2_getChar_3b067, Cond.code yJ2_getChar_3b067 cJ2_getChar_3b067 2 (some .char), Cond.fieldLink RJ2 44 "java/lang/StringUTF16" "$assertionsDisabled" "Z"]
def wsX2_kindOf_r4 : List Cond := [Cond.fieldLink RJ2 59 "java/lang/StringUTF16" "HI_BYTE_SHIFT" "I", Cond.fieldLink RJ2 63 "java/lang/StringUTF16" "LO_BYTE_SHIFT" "I", Cond.methodLink RJ2 232 yJ2_indexOfSupplementary_4cfef, Cond.static yJ2_indexOfSupplementary_4cfef, Cond.code yJ2_indexOfSupplementary_4cfef cJ2_indexOfSupplementary_4cfef 7 (some .int), Cond.methodLink RJ2 164 yJ11_isValidCodePoint_9a6ad, Cond.static yJ11_isValidCodePoint_9a6ad, Cond.initialized RJ11, Cond.code yJ11_isValidCodePoint_9a6ad cJ11_isValidCodePoint_9a6ad 2 (some .boolean), Cond.methodLink RJ2 157 yJ11_highSurrogate_5068e, Cond.static yJ11_highSurrogate_5068e, Cond.code yJ11_highSurrogate_5068e cJ11_highSurrogate_5068e 1 (some .char), Cond.constant RJ11 110 (55232), Cond.methodLink RJ2 161 yJ11_lowSurrogate_5068e, Cond.static yJ11_lowSurrogate_5068e, Cond.code yJ11_lowSurrogate_5068e cJ11_lowSurrogate_5068e 1 (some .char), Cond.constant RJ11 76 (56320)]
def wsX2_kindOf : List Cond := .code yX2_kindOf cX2_kindOf 1 (some .int) :: ((wsX2_kindOf_r1 ++ (wsX2_kindOf_r2 ++ (wsX2_kindOf_r3 ++ wsX2_kindOf_r4))))
def wsX2_faultAt : List Cond := .code yX2_faultAt cX2_faultAt 2 (some .int) :: ([])
def wsX3_hasDigitAt : List Cond := .code yX3_hasDigitAt cX3_hasDigitAt 2 (some .boolean) :: ([.methodLink RX3 23 yX3_at, .instanceMethod yX3_at, .selects RX3 yX3_at yX3_at, .initialized RX3, .code yX3_at cX3_at 2 (some .int), .fieldLink RX3 13 "PeerCircle$Tape" "size" "I", .fieldLink RX3 9 "PeerCircle$Tape" "bytes" "[I", .static yX5_isBelow, .initialized RX5, .code yX5_isBelow cX5_isBelow 2 (some .boolean)] ++ wsX30)
def wsX2_readDigits : List Cond := .code yX2_readDigits cX2_readDigits 4 (some .int) :: ([.fieldLink RX2 18 "PeerCircle$Rules" "place" "I", .methodLink RX2 56 yX3_hasDigitAt, .instanceMethod yX3_hasDigitAt, .selects RX3 yX3_hasDigitAt yX3_hasDigitAt, .initialized RX3, .code yX3_hasDigitAt cX3_hasDigitAt 2 (some .boolean), .methodLink RX3 23 yX3_at, .instanceMethod yX3_at, .selects RX3 yX3_at yX3_at, .code yX3_at cX3_at 2 (some .int), .fieldLink RX3 13 "PeerCircle$Tape" "size" "I", .fieldLink RX3 9 "PeerCircle$Tape" "bytes" "[I", .static yX5_isBelow, .initialized RX5, .code yX5_isBelow cX5_isBelow 2 (some .boolean), .methodLink RX2 45 yX3_at] ++ wsX20 ++ wsX30)
def wsX2_readClause_r1 : List Cond := [Cond.fieldLink RX2 18 "PeerCircle$Rules" "place" "I", Cond.fieldLink RX2 63 "PeerCircle$Rules" "LEAST" "[I", Cond.fieldLink RX2 66 "PeerCircle$Rules" "MOST" "[I", Cond.fieldLink RX2 15 "PeerCircle$Rules" "draft" "[I", Cond.methodLink RX2 45 yX3_at, Cond.instanceMethod yX3_at, Cond.selects RX3 yX3_at yX3_at, Cond.initialized RX3, Cond.code yX3_at cX3_at 2 (some .int), Cond.fieldLink RX3 13 "PeerCircle$Tape" "size" "I", Cond.fieldLink RX3 9 "PeerCircle$Tape" "bytes" "[I", Cond.static yX5_isBelow, Cond.initialized RX5, Cond.code yX5_isBelow cX5_isBelow 2 (some .boolean), Cond.methodLink RX2 53 yX2_kindOf, Cond.static yX2_kindOf, Cond.initialized RX2, Cond.code yX2_kindOf cX2_kindOf 1 (some .int), Cond.methodLink RX2 71 yJ0_indexOf_0f7a4, Cond.instanceMethod yJ0_indexOf_0f7a4, Cond.selects RJ0 yJ0_indexOf_0f7a4 yJ0_indexOf_0f7a4, Cond.initialized RJ0, Cond.code yJ0_indexOf_0f7a4 cJ0_indexOf_0f7a4 2 (some .int), Cond.methodLink RJ0 633 yJ0_indexOf_7cf53]
def wsX2_readClause_r2 : List Cond := [Cond.instanceMethod yJ0_indexOf_7cf53, Cond.selects RJ0 yJ0_indexOf_7cf53 yJ0_indexOf_7cf53, Cond.code yJ0_indexOf_7cf53 cJ0_indexOf_7cf53 3 (some .int), Cond.fieldLink RJ0 9 "java/lang/String" "value" "[B", Cond.methodLink RJ0 492 yJ0_isLatin1_aae02, Cond.instanceMethod yJ0_isLatin1_aae02, Cond.selects RJ0 yJ0_isLatin1_aae02 yJ0_isLatin1_aae02, Cond.code yJ0_isLatin1_aae02 cJ0_isLatin1_aae02 1 (some .boolean), Cond.fieldLink RJ0 38 "java/lang/String" "COMPACT_STRINGS" "Z", Cond.fieldLink RJ0 15 "java/lang/String" "coder" "B", Cond.methodLink RJ0 505 yJ0_length_8abf5, Cond.instanceMethod yJ0_length_8abf5, Cond.selects RJ0 yJ0_length_8abf5 yJ0_length_8abf5, Cond.code yJ0_length_8abf5 cJ0_length_8abf5 1 (some .int), Cond.methodLink RJ0 335 yJ0_coder_7d493, Cond.instanceMethod yJ0_coder_7d493, Cond.selects RJ0 yJ0_coder_7d493 yJ0_coder_7d493, Cond.code yJ0_coder_7d493 cJ0_coder_7d493 1 (some .byte), Cond.methodLink RJ0 637 yJ1_indexOf_4cfef, Cond.static yJ1_indexOf_4cfef, Cond.initialized RJ1, Cond.code yJ1_indexOf_4cfef cJ1_indexOf_4cfef 4 (some .int), Cond.methodLink RJ1 92 Lib.Math.max.name, Cond.static Lib.Math.max.name]
def wsX2_readClause_r3 : List Cond := [Cond.initialized "java/lang/Math", Cond.code Lib.Math.max.name Lib.Math.max.code 2 (some .int), Cond.methodLink RJ1 38 Lib.Math.min.name, Cond.static Lib.Math.min.name, Cond.code Lib.Math.min.name Lib.Math.min.code 2 (some .int), Cond.methodLink RJ1 88 yJ1_canEncode_9a6ad, Cond.static yJ1_canEncode_9a6ad, Cond.code yJ1_canEncode_9a6ad cJ1_canEncode_9a6ad 1 (some .boolean), Cond.methodLink RJ1 95 yJ1_indexOfChar_4cfef, Cond.static yJ1_indexOfChar_4cfef, Cond.code yJ1_indexOfChar_4cfef cJ1_indexOfChar_4cfef 6 (some .int), Cond.methodLink RJ0 640 yJ2_indexOf_4cfef, Cond.static yJ2_indexOf_4cfef, Cond.initialized RJ2, Cond.code yJ2_indexOf_4cfef cJ2_indexOf_4cfef 4 (some .int), Cond.methodLink RJ2 224 Lib.Math.max.name, Cond.methodLink RJ2 183 Lib.Math.min.name, Cond.constant RJ2 227 (65536), Cond.methodLink RJ2 228 yJ2_indexOfChar_4cfef, Cond.static yJ2_indexOfChar_4cfef, Cond.code yJ2_indexOfChar_4cfef cJ2_indexOfChar_4cfef 4 (some .int), Cond.methodLink RJ2 96 yJ2_checkBoundsBeginEnd_d044e, Cond.static yJ2_checkBoundsBeginEnd_d044e, Cond.code yJ2_checkBoundsBeginEnd_d044e cJ2_checkBoundsBeginEnd_d044e 3 none]
def wsX2_readClause_r4 : List Cond := [Cond.methodLink RJ2 48 yJ2_length_9d52b, Cond.static yJ2_length_9d52b, Cond.code yJ2_length_9d52b cJ2_length_9d52b 1 (some .int), Cond.methodLink RJ2 241 yJ0_checkBoundsBeginEnd_23922, Cond.static yJ0_checkBoundsBeginEnd_23922, Cond.code yJ0_checkBoundsBeginEnd_23922 cJ0_checkBoundsBeginEnd_23922 3 none, Cond.fieldLink RJ0 1053 "jdk/internal/util/Preconditions" "SIOOBE_FORMATTER" "Ljava/util/function/BiFunction;", Cond.methodLink RJ0 1062 yJ3_checkFromToIndex_8c36e, Cond.static yJ3_checkFromToIndex_8c36e, Cond.initialized RJ3, Cond.code yJ3_checkFromToIndex_8c36e cJ3_checkFromToIndex_8c36e 4 (some .int), Cond.methodLink RJ2 244 yJ2_indexOfCharUnsafe_4cfef, Cond.static yJ2_indexOfCharUnsafe_4cfef, Cond.code yJ2_indexOfCharUnsafe_4cfef cJ2_indexOfCharUnsafe_4cfef 5 (some .int), Cond.methodLink RJ2 71 yJ2_getChar_3b067, Cond.static yJ2_getChar_3b067, Cond.code yJ2_getChar_3b067 cJ2_getChar_3b067 2 (some .char), Cond.fieldLink RJ2 44 "java/lang/StringUTF16" "$assertionsDisabled" "Z", Cond.fieldLink RJ2 59 "java/lang/StringUTF16" "HI_BYTE_SHIFT" "I", Cond.fieldLink RJ2 63 "java/lang/StringUTF16" "LO_BYTE_SHIFT" "I", Cond.methodLink RJ2 232 yJ2_indexOfSupplementary_4cfef, Cond.static yJ2_indexOfSupplementary_4cfef, Cond.code yJ2_indexOfSupplementary_4cfef cJ2_indexOfSupplementary_4cfef 7 (some .int), Cond.methodLink RJ2 164 yJ11_isValidCodePoint_9a6ad]
def wsX2_readClause_r5 : List Cond := [Cond.static yJ11_isValidCodePoint_9a6ad, Cond.initialized RJ11, Cond.code yJ11_isValidCodePoint_9a6ad cJ11_isValidCodePoint_9a6ad 2 (some .boolean), Cond.methodLink RJ2 157 yJ11_highSurrogate_5068e, Cond.static yJ11_highSurrogate_5068e, Cond.code yJ11_highSurrogate_5068e cJ11_highSurrogate_5068e 1 (some .char), Cond.constant RJ11 110 (55232), Cond.methodLink RJ2 161 yJ11_lowSurrogate_5068e, Cond.static yJ11_lowSurrogate_5068e, Cond.code yJ11_lowSurrogate_5068e cJ11_lowSurrogate_5068e 1 (some .char), Cond.constant RJ11 76 (56320), Cond.methodLink RX2 49 yX2_faultAt, Cond.static yX2_faultAt, Cond.code yX2_faultAt cX2_faultAt 2 (some .int), Cond.methodLink RX2 56 yX3_hasDigitAt, Cond.instanceMethod yX3_hasDigitAt, Cond.selects RX3 yX3_hasDigitAt yX3_hasDigitAt, Cond.code yX3_hasDigitAt cX3_hasDigitAt 2 (some .boolean), Cond.methodLink RX3 23 yX3_at, Cond.methodLink RX2 60 yX2_readDigits, Cond.instanceMethod yX2_readDigits, Cond.selects RX2 yX2_readDigits yX2_readDigits, Cond.code yX2_readDigits cX2_readDigits 4 (some .int)]
def wsX2_readClause : List Cond := .code yX2_readClause cX2_readClause 5 (some .int) :: ((wsX2_readClause_r1 ++ (wsX2_readClause_r2 ++ (wsX2_readClause_r3 ++ (wsX2_readClause_r4 ++ wsX2_readClause_r5)))) ++ wsX20 ++ wsX30)
def wsX2_read_r1 : List Cond := [Cond.fieldLink RX2 22 "PeerCircle$Rules" "AT_FIRST" "[I", Cond.fieldLink RX2 15 "PeerCircle$Rules" "draft" "[I", Cond.methodLink RX2 25 arraycopyName, Cond.native arraycopyName, Cond.static arraycopyName, Cond.initialized "java/lang/System", Cond.fieldLink RX2 18 "PeerCircle$Rules" "place" "I", Cond.fieldLink RX2 11 "PeerCircle$Rules" "numbers" "[I", Cond.methodLink RX2 35 yX3_size, Cond.instanceMethod yX3_size, Cond.selects RX3 yX3_size yX3_size, Cond.initialized RX3, Cond.code yX3_size cX3_size 1 (some .int), Cond.fieldLink RX3 13 "PeerCircle$Tape" "size" "I", Cond.methodLink RX2 41 yX2_readClause, Cond.instanceMethod yX2_readClause, Cond.selects RX2 yX2_readClause yX2_readClause, Cond.initialized RX2, Cond.code yX2_readClause cX2_readClause 5 (some .int), Cond.fieldLink RX2 63 "PeerCircle$Rules" "LEAST" "[I", Cond.fieldLink RX2 66 "PeerCircle$Rules" "MOST" "[I", Cond.methodLink RX2 45 yX3_at, Cond.instanceMethod yX3_at, Cond.selects RX3 yX3_at yX3_at]
def wsX2_read_r2 : List Cond := [Cond.code yX3_at cX3_at 2 (some .int), Cond.fieldLink RX3 9 "PeerCircle$Tape" "bytes" "[I", Cond.static yX5_isBelow, Cond.initialized RX5, Cond.code yX5_isBelow cX5_isBelow 2 (some .boolean), Cond.methodLink RX2 53 yX2_kindOf, Cond.static yX2_kindOf, Cond.code yX2_kindOf cX2_kindOf 1 (some .int), Cond.methodLink RX2 71 yJ0_indexOf_0f7a4, Cond.instanceMethod yJ0_indexOf_0f7a4, Cond.selects RJ0 yJ0_indexOf_0f7a4 yJ0_indexOf_0f7a4, Cond.initialized RJ0, Cond.code yJ0_indexOf_0f7a4 cJ0_indexOf_0f7a4 2 (some .int), Cond.methodLink RJ0 633 yJ0_indexOf_7cf53, Cond.instanceMethod yJ0_indexOf_7cf53, Cond.selects RJ0 yJ0_indexOf_7cf53 yJ0_indexOf_7cf53, Cond.code yJ0_indexOf_7cf53 cJ0_indexOf_7cf53 3 (some .int), Cond.fieldLink RJ0 9 "java/lang/String" "value" "[B", Cond.methodLink RJ0 492 yJ0_isLatin1_aae02, Cond.instanceMethod yJ0_isLatin1_aae02, Cond.selects RJ0 yJ0_isLatin1_aae02 yJ0_isLatin1_aae02, Cond.code yJ0_isLatin1_aae02 cJ0_isLatin1_aae02 1 (some .boolean), Cond.fieldLink RJ0 38 "java/lang/String" "COMPACT_STRINGS" "Z", Cond.fieldLink RJ0 15 "java/lang/String" "coder" "B"]
def wsX2_read_r3 : List Cond := [Cond.methodLink RJ0 505 yJ0_length_8abf5, Cond.instanceMethod yJ0_length_8abf5, Cond.selects RJ0 yJ0_length_8abf5 yJ0_length_8abf5, Cond.code yJ0_length_8abf5 cJ0_length_8abf5 1 (some .int), Cond.methodLink RJ0 335 yJ0_coder_7d493, Cond.instanceMethod yJ0_coder_7d493, Cond.selects RJ0 yJ0_coder_7d493 yJ0_coder_7d493, Cond.code yJ0_coder_7d493 cJ0_coder_7d493 1 (some .byte), Cond.methodLink RJ0 637 yJ1_indexOf_4cfef, Cond.static yJ1_indexOf_4cfef, Cond.initialized RJ1, Cond.code yJ1_indexOf_4cfef cJ1_indexOf_4cfef 4 (some .int), Cond.methodLink RJ1 92 Lib.Math.max.name, Cond.static Lib.Math.max.name, Cond.initialized "java/lang/Math", Cond.code Lib.Math.max.name Lib.Math.max.code 2 (some .int), Cond.methodLink RJ1 38 Lib.Math.min.name, Cond.static Lib.Math.min.name, Cond.code Lib.Math.min.name Lib.Math.min.code 2 (some .int), Cond.methodLink RJ1 88 yJ1_canEncode_9a6ad, Cond.static yJ1_canEncode_9a6ad, Cond.code yJ1_canEncode_9a6ad cJ1_canEncode_9a6ad 1 (some .boolean), Cond.methodLink RJ1 95 yJ1_indexOfChar_4cfef, Cond.static yJ1_indexOfChar_4cfef]
def wsX2_read_r4 : List Cond := [Cond.code yJ1_indexOfChar_4cfef cJ1_indexOfChar_4cfef 6 (some .int), Cond.methodLink RJ0 640 yJ2_indexOf_4cfef, Cond.static yJ2_indexOf_4cfef, Cond.initialized RJ2, Cond.code yJ2_indexOf_4cfef cJ2_indexOf_4cfef 4 (some .int), Cond.methodLink RJ2 224 Lib.Math.max.name, Cond.methodLink RJ2 183 Lib.Math.min.name, Cond.constant RJ2 227 (65536), Cond.methodLink RJ2 228 yJ2_indexOfChar_4cfef, Cond.static yJ2_indexOfChar_4cfef, Cond.code yJ2_indexOfChar_4cfef cJ2_indexOfChar_4cfef 4 (some .int), Cond.methodLink RJ2 96 yJ2_checkBoundsBeginEnd_d044e, Cond.static yJ2_checkBoundsBeginEnd_d044e, Cond.code yJ2_checkBoundsBeginEnd_d044e cJ2_checkBoundsBeginEnd_d044e 3 none, Cond.methodLink RJ2 48 yJ2_length_9d52b, Cond.static yJ2_length_9d52b, Cond.code yJ2_length_9d52b cJ2_length_9d52b 1 (some .int), Cond.methodLink RJ2 241 yJ0_checkBoundsBeginEnd_23922, Cond.static yJ0_checkBoundsBeginEnd_23922, Cond.code yJ0_checkBoundsBeginEnd_23922 cJ0_checkBoundsBeginEnd_23922 3 none, Cond.fieldLink RJ0 1053 "jdk/internal/util/Preconditions" "SIOOBE_FORMATTER" "Ljava/util/function/BiFunction;", Cond.methodLink RJ0 1062 yJ3_checkFromToIndex_8c36e, Cond.static yJ3_checkFromToIndex_8c36e, Cond.initialized RJ3]
def wsX2_read_r5 : List Cond := [Cond.code yJ3_checkFromToIndex_8c36e cJ3_checkFromToIndex_8c36e 4 (some .int), Cond.methodLink RJ2 244 yJ2_indexOfCharUnsafe_4cfef, Cond.static yJ2_indexOfCharUnsafe_4cfef, Cond.code yJ2_indexOfCharUnsafe_4cfef cJ2_indexOfCharUnsafe_4cfef 5 (some .int), Cond.methodLink RJ2 71 yJ2_getChar_3b067, Cond.static yJ2_getChar_3b067, Cond.code yJ2_getChar_3b067 cJ2_getChar_3b067 2 (some .char), Cond.fieldLink RJ2 44 "java/lang/StringUTF16" "$assertionsDisabled" "Z", Cond.fieldLink RJ2 59 "java/lang/StringUTF16" "HI_BYTE_SHIFT" "I", Cond.fieldLink RJ2 63 "java/lang/StringUTF16" "LO_BYTE_SHIFT" "I", Cond.methodLink RJ2 232 yJ2_indexOfSupplementary_4cfef, Cond.static yJ2_indexOfSupplementary_4cfef, Cond.code yJ2_indexOfSupplementary_4cfef cJ2_indexOfSupplementary_4cfef 7 (some .int), Cond.methodLink RJ2 164 yJ11_isValidCodePoint_9a6ad, Cond.static yJ11_isValidCodePoint_9a6ad, Cond.initialized RJ11, Cond.code yJ11_isValidCodePoint_9a6ad cJ11_isValidCodePoint_9a6ad 2 (some .boolean), Cond.methodLink RJ2 157 yJ11_highSurrogate_5068e, Cond.static yJ11_highSurrogate_5068e, Cond.code yJ11_highSurrogate_5068e cJ11_highSurrogate_5068e 1 (some .char), Cond.constant RJ11 110 (55232), Cond.methodLink RJ2 161 yJ11_lowSurrogate_5068e, Cond.static yJ11_lowSurrogate_5068e, Cond.code yJ11_lowSurrogate_5068e cJ11_lowSurrogate_5068e 1 (some .char)]
def wsX2_read_r6 : List Cond := [Cond.constant RJ11 76 (56320), Cond.methodLink RX2 49 yX2_faultAt, Cond.static yX2_faultAt, Cond.code yX2_faultAt cX2_faultAt 2 (some .int), Cond.methodLink RX2 56 yX3_hasDigitAt, Cond.instanceMethod yX3_hasDigitAt, Cond.selects RX3 yX3_hasDigitAt yX3_hasDigitAt, Cond.code yX3_hasDigitAt cX3_hasDigitAt 2 (some .boolean), Cond.methodLink RX3 23 yX3_at, Cond.methodLink RX2 60 yX2_readDigits, Cond.instanceMethod yX2_readDigits, Cond.selects RX2 yX2_readDigits yX2_readDigits, Cond.code yX2_readDigits cX2_readDigits 4 (some .int)]
def wsX2_read : List Cond := .code yX2_read cX2_read 4 (some .int) :: ((wsX2_read_r1 ++ (wsX2_read_r2 ++ (wsX2_read_r3 ++ (wsX2_read_r4 ++ (wsX2_read_r5 ++ wsX2_read_r6))))) ++ wsX20 ++ wsX30)
def wsX3_init : List Cond := .code yX3_init cX3_init 1 none :: ([.methodLink RX3 1 objectInit, .instanceMethod objectInit, .code objectInit ⟨#[0xb1]⟩ 1 none, .arrayClass .int, .fieldLink RX3 9 "PeerCircle$Tape" "bytes" "[I", .fieldLink RX3 13 "PeerCircle$Tape" "size" "I"] ++ wsX30)
def wsX3_takesFeed : List Cond := .code yX3_takesFeed cX3_takesFeed 1 (some .boolean) :: ([.fieldLink RX3 13 "PeerCircle$Tape" "size" "I"] ++ wsX30)
def wsX3_put : List Cond := .code yX3_put cX3_put 3 none :: ([.fieldLink RX3 13 "PeerCircle$Tape" "size" "I", .fieldLink RX3 9 "PeerCircle$Tape" "bytes" "[I", .static yX5_isBelow, .initialized RX5, .code yX5_isBelow cX5_isBelow 2 (some .boolean)] ++ wsX30)
def wsX3_cutTo : List Cond := .code yX3_cutTo cX3_cutTo 2 none :: ([.fieldLink RX3 13 "PeerCircle$Tape" "size" "I"] ++ wsX30)
def wsX4_init : List Cond := .code yX4_init cX4_init 1 none :: ([.methodLink RX4 3 objectInit, .instanceMethod objectInit, .code objectInit ⟨#[0xb1]⟩ 1 none, .arrayClass .int, .fieldLink RX4 9 "PeerCircle$Visits" "visitors" "[I", .fieldLink RX4 15 "PeerCircle$Visits" "visitorsBefore" "[I", .classLink RX4 18 "[[I", .fieldLink RX4 20 "PeerCircle$Visits" "told" "[[I", .fieldLink RX4 23 "PeerCircle$Visits" "laid" "Z"] ++ wsX40)
def wsX4_areLaid : List Cond := .code yX4_areLaid cX4_areLaid 1 (some .boolean) :: ([.fieldLink RX4 23 "PeerCircle$Visits" "laid" "Z"] ++ wsX40)
def wsX4_setLaid : List Cond := .code yX4_setLaid cX4_setLaid 1 none :: ([.fieldLink RX4 23 "PeerCircle$Visits" "laid" "Z"] ++ wsX40)
def wsX4_setVisitors : List Cond := .code yX4_setVisitors cX4_setVisitors 3 none :: ([.fieldLink RX4 9 "PeerCircle$Visits" "visitors" "[I"] ++ wsX40)
def wsX4_isVisitor : List Cond := .code yX4_isVisitor cX4_isVisitor 3 (some .boolean) :: ([.fieldLink RX4 9 "PeerCircle$Visits" "visitors" "[I", .static yX5_hasBit, .initialized RX5, .code yX5_hasBit cX5_hasBit 2 (some .boolean)] ++ wsX40)
def wsX4_wasVisitor : List Cond := .code yX4_wasVisitor cX4_wasVisitor 3 (some .boolean) :: ([.fieldLink RX4 15 "PeerCircle$Visits" "visitorsBefore" "[I", .static yX5_hasBit, .initialized RX5, .code yX5_hasBit cX5_hasBit 2 (some .boolean)] ++ wsX40)
def wsX4_visitorCount : List Cond := .code yX4_visitorCount cX4_visitorCount 2 (some .int) :: ([.fieldLink RX4 9 "PeerCircle$Visits" "visitors" "[I", .methodLink RX4 31 yJ6_bitCount_0f7a4, .static yJ6_bitCount_0f7a4, .initialized RJ6, .code yJ6_bitCount_0f7a4 cJ6_bitCount_0f7a4 1 (some .int), .constant RJ6 265 (1431655765), .constant RJ6 266 (858993459), .constant RJ6 267 (252645135)] ++ wsX40)
def wsX5_oneIf : List Cond := .code yX5_oneIf cX5_oneIf 1 (some .int) :: ([])
def wsX4_visitsBy : List Cond := .code yX4_visitsBy cX4_visitsBy 4 (some .int) :: ([.methodLink RX4 37 yX4_isVisitor, .instanceMethod yX4_isVisitor, .selects RX4 yX4_isVisitor yX4_isVisitor, .initialized RX4, .code yX4_isVisitor cX4_isVisitor 3 (some .boolean), .fieldLink RX4 9 "PeerCircle$Visits" "visitors" "[I", .static yX5_hasBit, .initialized RX5, .code yX5_hasBit cX5_hasBit 2 (some .boolean), .static yX5_oneIf, .code yX5_oneIf cX5_oneIf 1 (some .int)] ++ wsX40)
def wsX4_total : List Cond := .code yX4_total cX4_total 3 (some .int) :: ([.methodLink RX4 44 yX4_visitorCount, .instanceMethod yX4_visitorCount, .selects RX4 yX4_visitorCount yX4_visitorCount, .initialized RX4, .code yX4_visitorCount cX4_visitorCount 2 (some .int), .fieldLink RX4 9 "PeerCircle$Visits" "visitors" "[I", .methodLink RX4 31 yJ6_bitCount_0f7a4, .static yJ6_bitCount_0f7a4, .initialized RJ6, .code yJ6_bitCount_0f7a4 cJ6_bitCount_0f7a4 1 (some .int), .constant RJ6 265 (1431655765), .constant RJ6 266 (858993459), .constant RJ6 267 (252645135)] ++ wsX40)
def wsX4_visitorAt : List Cond := .code yX4_visitorAt cX4_visitorAt 5 (some .int) :: ([.methodLink RX4 37 yX4_isVisitor, .instanceMethod yX4_isVisitor, .selects RX4 yX4_isVisitor yX4_isVisitor, .initialized RX4, .code yX4_isVisitor cX4_isVisitor 3 (some .boolean), .fieldLink RX4 9 "PeerCircle$Visits" "visitors" "[I", .static yX5_hasBit, .initialized RX5, .code yX5_hasBit cX5_hasBit 2 (some .boolean)] ++ wsX40)
def wsX4_tell : List Cond := .code yX4_tell cX4_tell 5 none :: ([.fieldLink RX4 20 "PeerCircle$Visits" "told" "[[I"] ++ wsX40)
def wsX4_breachesAt : List Cond := .code yX4_breachesAt cX4_breachesAt 5 (some .int) :: ([.fieldLink RX4 20 "PeerCircle$Visits" "told" "[[I"] ++ wsX40)
def wsX4_vouchersFor : List Cond := .code yX4_vouchersFor cX4_vouchersFor 4 (some .int) :: ([.fieldLink RX4 9 "PeerCircle$Visits" "visitors" "[I", .fieldLink RX4 20 "PeerCircle$Visits" "told" "[[I"] ++ wsX40)
def wsX4_vouchedForBy : List Cond := .code yX4_vouchedForBy cX4_vouchedForBy 4 (some .int) :: ([.methodLink RX4 47 yX4_vouchersFor, .instanceMethod yX4_vouchersFor, .selects RX4 yX4_vouchersFor yX4_vouchersFor, .initialized RX4, .code yX4_vouchersFor cX4_vouchersFor 4 (some .int), .fieldLink RX4 9 "PeerCircle$Visits" "visitors" "[I", .fieldLink RX4 20 "PeerCircle$Visits" "told" "[[I"] ++ wsX40)
def wsX4_endYear : List Cond := .code yX4_endYear cX4_endYear 2 none :: ([.fieldLink RX4 9 "PeerCircle$Visits" "visitors" "[I", .fieldLink RX4 15 "PeerCircle$Visits" "visitorsBefore" "[I", .methodLink RX4 50 arraycopyName, .native arraycopyName, .static arraycopyName, .initialized "java/lang/System", .fieldLink RX4 20 "PeerCircle$Visits" "told" "[[I", .fieldLink RX4 23 "PeerCircle$Visits" "laid" "Z", .methodLink RX4 56 yJ7_fill_53178, .static yJ7_fill_53178, .initialized RJ7, .code yJ7_fill_53178 cJ7_fill_53178 4 none] ++ wsX40)
def wsX5_init_r1 : List Cond := [Cond.methodLink RX5 1 objectInit, Cond.instanceMethod objectInit, Cond.code objectInit ⟨#[0xb1]⟩ 1 none, Cond.classLink RX5 7 RX3, Cond.instantiable RX3 2, Cond.initialized RX3, Cond.fieldLink RX5 10 "PeerCircle" "tape" "LPeerCircle$Tape;", Cond.classLink RX5 16 RX2, Cond.instantiable RX2 3, Cond.initialized RX2, Cond.fieldLink RX5 19 "PeerCircle" "ruling" "LPeerCircle$Rules;", Cond.classLink RX5 23 RX4, Cond.instantiable RX4 4, Cond.initialized RX4, Cond.fieldLink RX5 26 "PeerCircle" "visits" "LPeerCircle$Visits;", Cond.classLink RX5 30 RX1, Cond.instantiable RX1 7, Cond.initialized RX1, Cond.fieldLink RX5 33 "PeerCircle" "planner" "LPeerCircle$Planner;", Cond.classLink RX5 37 RX0, Cond.fieldLink RX5 39 "PeerCircle" "farms" "[LPeerCircle$Farm;", Cond.arrayClass .int, Cond.fieldLink RX5 43 "PeerCircle" "sellers" "[I", Cond.fieldLink RX5 47 "PeerCircle" "weights" "[I"]
def wsX5_init_r2 : List Cond := [Cond.fieldLink RX5 50 "PeerCircle" "farmCount" "I", Cond.fieldLink RX5 54 "PeerCircle" "yearNow" "I", Cond.instanceMethod yX3_init, Cond.code yX3_init cX3_init 1 none, Cond.methodLink RX3 1 objectInit, Cond.fieldLink RX3 9 "PeerCircle$Tape" "bytes" "[I", Cond.fieldLink RX3 13 "PeerCircle$Tape" "size" "I", Cond.methodLink RX5 18 yX2_init, Cond.instanceMethod yX2_init, Cond.code yX2_init cX2_init 1 none, Cond.methodLink RX2 3 objectInit, Cond.fieldLink RX2 11 "PeerCircle$Rules" "numbers" "[I", Cond.fieldLink RX2 15 "PeerCircle$Rules" "draft" "[I", Cond.fieldLink RX2 18 "PeerCircle$Rules" "place" "I", Cond.fieldLink RX2 22 "PeerCircle$Rules" "AT_FIRST" "[I", Cond.methodLink RX2 25 arraycopyName, Cond.native arraycopyName, Cond.static arraycopyName, Cond.initialized "java/lang/System", Cond.instanceMethod yX4_init, Cond.code yX4_init cX4_init 1 none, Cond.methodLink RX4 3 objectInit, Cond.fieldLink RX4 9 "PeerCircle$Visits" "visitors" "[I", Cond.fieldLink RX4 15 "PeerCircle$Visits" "visitorsBefore" "[I"]
def wsX5_init_r3 : List Cond := [Cond.classLink RX4 18 "[[I", Cond.fieldLink RX4 20 "PeerCircle$Visits" "told" "[[I", Cond.fieldLink RX4 23 "PeerCircle$Visits" "laid" "Z", Cond.instanceMethod yX1_init, Cond.code yX1_init cX1_init 1 none, Cond.methodLink RX1 5 objectInit, Cond.fieldLink RX1 11 "PeerCircle$Planner" "ways" "[I", Cond.fieldLink RX1 15 "PeerCircle$Planner" "cameFrom" "[I", Cond.fieldLink RX1 18 "PeerCircle$Planner" "queue" "[I", Cond.fieldLink RX1 21 "PeerCircle$Planner" "visitors" "[I", Cond.fieldLink RX1 24 "PeerCircle$Planner" "visitsMade" "[I", Cond.fieldLink RX1 27 "PeerCircle$Planner" "mostVisitors" "I", Cond.fieldLink RX1 31 "PeerCircle$Planner" "mostVisits" "I", Cond.methodLink RX5 57 yJ7_fill_53178, Cond.static yJ7_fill_53178, Cond.initialized RJ7, Cond.code yJ7_fill_53178 cJ7_fill_53178 4 none]
def wsX5_init : List Cond := .code yX5_init cX5_init 1 none :: ((wsX5_init_r1 ++ (wsX5_init_r2 ++ wsX5_init_r3)) ++ wsX30 ++ wsX50 ++ wsX20 ++ wsX40 ++ wsX10)
def wsX5_feed : List Cond := .code yX5_feed cX5_feed 6 (some .int) :: ([.fieldLink RX5 10 "PeerCircle" "tape" "LPeerCircle$Tape;", .methodLink RX5 63 yX3_takesFeed, .instanceMethod yX3_takesFeed, .selects RX3 yX3_takesFeed yX3_takesFeed, .initialized RX3, .code yX3_takesFeed cX3_takesFeed 1 (some .boolean), .fieldLink RX3 13 "PeerCircle$Tape" "size" "I", .methodLink RX5 67 yX3_put, .instanceMethod yX3_put, .selects RX3 yX3_put yX3_put, .code yX3_put cX3_put 3 none, .fieldLink RX3 9 "PeerCircle$Tape" "bytes" "[I", .static yX5_isBelow, .initialized RX5, .code yX5_isBelow cX5_isBelow 2 (some .boolean), .methodLink RX5 71 yX3_size, .instanceMethod yX3_size, .selects RX3 yX3_size yX3_size, .code yX3_size cX3_size 1 (some .int)] ++ wsX50 ++ wsX30)
def wsX5_rules_r1 : List Cond := [Cond.fieldLink RX5 10 "PeerCircle" "tape" "LPeerCircle$Tape;", Cond.fieldLink RX5 19 "PeerCircle" "ruling" "LPeerCircle$Rules;", Cond.methodLink RX5 71 yX3_size, Cond.instanceMethod yX3_size, Cond.selects RX3 yX3_size yX3_size, Cond.initialized RX3, Cond.code yX3_size cX3_size 1 (some .int), Cond.fieldLink RX3 13 "PeerCircle$Tape" "size" "I", Cond.methodLink RX5 75 yX3_cutTo, Cond.instanceMethod yX3_cutTo, Cond.selects RX3 yX3_cutTo yX3_cutTo, Cond.code yX3_cutTo cX3_cutTo 2 none, Cond.methodLink RX5 78 yX2_read, Cond.instanceMethod yX2_read, Cond.selects RX2 yX2_read yX2_read, Cond.initialized RX2, Cond.code yX2_read cX2_read 4 (some .int), Cond.fieldLink RX2 22 "PeerCircle$Rules" "AT_FIRST" "[I", Cond.fieldLink RX2 15 "PeerCircle$Rules" "draft" "[I", Cond.methodLink RX2 25 arraycopyName, Cond.native arraycopyName, Cond.static arraycopyName, Cond.initialized "java/lang/System", Cond.fieldLink RX2 18 "PeerCircle$Rules" "place" "I"]
def wsX5_rules_r2 : List Cond := [Cond.fieldLink RX2 11 "PeerCircle$Rules" "numbers" "[I", Cond.methodLink RX2 35 yX3_size, Cond.methodLink RX2 41 yX2_readClause, Cond.instanceMethod yX2_readClause, Cond.selects RX2 yX2_readClause yX2_readClause, Cond.code yX2_readClause cX2_readClause 5 (some .int), Cond.fieldLink RX2 63 "PeerCircle$Rules" "LEAST" "[I", Cond.fieldLink RX2 66 "PeerCircle$Rules" "MOST" "[I", Cond.methodLink RX2 45 yX3_at, Cond.instanceMethod yX3_at, Cond.selects RX3 yX3_at yX3_at, Cond.code yX3_at cX3_at 2 (some .int), Cond.fieldLink RX3 9 "PeerCircle$Tape" "bytes" "[I", Cond.static yX5_isBelow, Cond.initialized RX5, Cond.code yX5_isBelow cX5_isBelow 2 (some .boolean), Cond.methodLink RX2 53 yX2_kindOf, Cond.static yX2_kindOf, Cond.code yX2_kindOf cX2_kindOf 1 (some .int), Cond.methodLink RX2 71 yJ0_indexOf_0f7a4, Cond.instanceMethod yJ0_indexOf_0f7a4, Cond.selects RJ0 yJ0_indexOf_0f7a4 yJ0_indexOf_0f7a4, Cond.initialized RJ0, Cond.code yJ0_indexOf_0f7a4 cJ0_indexOf_0f7a4 2 (some .int)]
def wsX5_rules_r3 : List Cond := [Cond.methodLink RJ0 633 yJ0_indexOf_7cf53, Cond.instanceMethod yJ0_indexOf_7cf53, Cond.selects RJ0 yJ0_indexOf_7cf53 yJ0_indexOf_7cf53, Cond.code yJ0_indexOf_7cf53 cJ0_indexOf_7cf53 3 (some .int), Cond.fieldLink RJ0 9 "java/lang/String" "value" "[B", Cond.methodLink RJ0 492 yJ0_isLatin1_aae02, Cond.instanceMethod yJ0_isLatin1_aae02, Cond.selects RJ0 yJ0_isLatin1_aae02 yJ0_isLatin1_aae02, Cond.code yJ0_isLatin1_aae02 cJ0_isLatin1_aae02 1 (some .boolean), Cond.fieldLink RJ0 38 "java/lang/String" "COMPACT_STRINGS" "Z", Cond.fieldLink RJ0 15 "java/lang/String" "coder" "B", Cond.methodLink RJ0 505 yJ0_length_8abf5, Cond.instanceMethod yJ0_length_8abf5, Cond.selects RJ0 yJ0_length_8abf5 yJ0_length_8abf5, Cond.code yJ0_length_8abf5 cJ0_length_8abf5 1 (some .int), Cond.methodLink RJ0 335 yJ0_coder_7d493, Cond.instanceMethod yJ0_coder_7d493, Cond.selects RJ0 yJ0_coder_7d493 yJ0_coder_7d493, Cond.code yJ0_coder_7d493 cJ0_coder_7d493 1 (some .byte), Cond.methodLink RJ0 637 yJ1_indexOf_4cfef, Cond.static yJ1_indexOf_4cfef, Cond.initialized RJ1, Cond.code yJ1_indexOf_4cfef cJ1_indexOf_4cfef 4 (some .int), Cond.methodLink RJ1 92 Lib.Math.max.name]
def wsX5_rules_r4 : List Cond := [Cond.static Lib.Math.max.name, Cond.initialized "java/lang/Math", Cond.code Lib.Math.max.name Lib.Math.max.code 2 (some .int), Cond.methodLink RJ1 38 Lib.Math.min.name, Cond.static Lib.Math.min.name, Cond.code Lib.Math.min.name Lib.Math.min.code 2 (some .int), Cond.methodLink RJ1 88 yJ1_canEncode_9a6ad, Cond.static yJ1_canEncode_9a6ad, Cond.code yJ1_canEncode_9a6ad cJ1_canEncode_9a6ad 1 (some .boolean), Cond.methodLink RJ1 95 yJ1_indexOfChar_4cfef, Cond.static yJ1_indexOfChar_4cfef, Cond.code yJ1_indexOfChar_4cfef cJ1_indexOfChar_4cfef 6 (some .int), Cond.methodLink RJ0 640 yJ2_indexOf_4cfef, Cond.static yJ2_indexOf_4cfef, Cond.initialized RJ2, Cond.code yJ2_indexOf_4cfef cJ2_indexOf_4cfef 4 (some .int), Cond.methodLink RJ2 224 Lib.Math.max.name, Cond.methodLink RJ2 183 Lib.Math.min.name, Cond.constant RJ2 227 (65536), Cond.methodLink RJ2 228 yJ2_indexOfChar_4cfef, Cond.static yJ2_indexOfChar_4cfef, Cond.code yJ2_indexOfChar_4cfef cJ2_indexOfChar_4cfef 4 (some .int), Cond.methodLink RJ2 96 yJ2_checkBoundsBeginEnd_d044e, Cond.static yJ2_checkBoundsBeginEnd_d044e]
def wsX5_rules_r5 : List Cond := [Cond.code yJ2_checkBoundsBeginEnd_d044e cJ2_checkBoundsBeginEnd_d044e 3 none, Cond.methodLink RJ2 48 yJ2_length_9d52b, Cond.static yJ2_length_9d52b, Cond.code yJ2_length_9d52b cJ2_length_9d52b 1 (some .int), Cond.methodLink RJ2 241 yJ0_checkBoundsBeginEnd_23922, Cond.static yJ0_checkBoundsBeginEnd_23922, Cond.code yJ0_checkBoundsBeginEnd_23922 cJ0_checkBoundsBeginEnd_23922 3 none, Cond.fieldLink RJ0 1053 "jdk/internal/util/Preconditions" "SIOOBE_FORMATTER" "Ljava/util/function/BiFunction;", Cond.methodLink RJ0 1062 yJ3_checkFromToIndex_8c36e, Cond.static yJ3_checkFromToIndex_8c36e, Cond.initialized RJ3, Cond.code yJ3_checkFromToIndex_8c36e cJ3_checkFromToIndex_8c36e 4 (some .int), Cond.methodLink RJ2 244 yJ2_indexOfCharUnsafe_4cfef, Cond.static yJ2_indexOfCharUnsafe_4cfef, Cond.code yJ2_indexOfCharUnsafe_4cfef cJ2_indexOfCharUnsafe_4cfef 5 (some .int), Cond.methodLink RJ2 71 yJ2_getChar_3b067, Cond.static yJ2_getChar_3b067, Cond.code yJ2_getChar_3b067 cJ2_getChar_3b067 2 (some .char), Cond.fieldLink RJ2 44 "java/lang/StringUTF16" "$assertionsDisabled" "Z", Cond.fieldLink RJ2 59 "java/lang/StringUTF16" "HI_BYTE_SHIFT" "I", Cond.fieldLink RJ2 63 "java/lang/StringUTF16" "LO_BYTE_SHIFT" "I", Cond.methodLink RJ2 232 yJ2_indexOfSupplementary_4cfef, Cond.static yJ2_indexOfSupplementary_4cfef, Cond.code yJ2_indexOfSupplementary_4cfef cJ2_indexOfSupplementary_4cfef 7 (some .int)]
def wsX5_rules_r6 : List Cond := [Cond.methodLink RJ2 164 yJ11_isValidCodePoint_9a6ad, Cond.static yJ11_isValidCodePoint_9a6ad, Cond.initialized RJ11, Cond.code yJ11_isValidCodePoint_9a6ad cJ11_isValidCodePoint_9a6ad 2 (some .boolean), Cond.methodLink RJ2 157 yJ11_highSurrogate_5068e, Cond.static yJ11_highSurrogate_5068e, Cond.code yJ11_highSurrogate_5068e cJ11_highSurrogate_5068e 1 (some .char), Cond.constant RJ11 110 (55232), Cond.methodLink RJ2 161 yJ11_lowSurrogate_5068e, Cond.static yJ11_lowSurrogate_5068e, Cond.code yJ11_lowSurrogate_5068e cJ11_lowSurrogate_5068e 1 (some .char), Cond.constant RJ11 76 (56320), Cond.methodLink RX2 49 yX2_faultAt, Cond.static yX2_faultAt, Cond.code yX2_faultAt cX2_faultAt 2 (some .int), Cond.methodLink RX2 56 yX3_hasDigitAt, Cond.instanceMethod yX3_hasDigitAt, Cond.selects RX3 yX3_hasDigitAt yX3_hasDigitAt, Cond.code yX3_hasDigitAt cX3_hasDigitAt 2 (some .boolean), Cond.methodLink RX3 23 yX3_at, Cond.methodLink RX2 60 yX2_readDigits, Cond.instanceMethod yX2_readDigits, Cond.selects RX2 yX2_readDigits yX2_readDigits, Cond.code yX2_readDigits cX2_readDigits 4 (some .int)]
def wsX5_rules : List Cond := .code yX5_rules cX5_rules 3 (some .int) :: ((wsX5_rules_r1 ++ (wsX5_rules_r2 ++ (wsX5_rules_r3 ++ (wsX5_rules_r4 ++ (wsX5_rules_r5 ++ wsX5_rules_r6))))) ++ wsX50 ++ wsX30 ++ wsX20)
def wsX5_farm : List Cond := .code yX5_farm cX5_farm 3 (some .int) :: ([.fieldLink RX5 50 "PeerCircle" "farmCount" "I", .fieldLink RX5 39 "PeerCircle" "farms" "[LPeerCircle$Farm;", .classLink RX5 37 RX0, .instantiable RX0 8, .initialized RX0, .methodLink RX5 82 yX5_isBelow, .static yX5_isBelow, .initialized RX5, .code yX5_isBelow cX5_isBelow 2 (some .boolean), .methodLink RX5 86 yX0_init, .instanceMethod yX0_init, .code yX0_init cX0_init 3 none, .methodLink RX0 1 objectInit, .instanceMethod objectInit, .code objectInit ⟨#[0xb1]⟩ 1 none, .fieldLink RX0 7 "PeerCircle$Farm" "hasSeal" "Z", .fieldLink RX0 13 "PeerCircle$Farm" "step" "I", .fieldLink RX0 17 "PeerCircle$Farm" "yearsOut" "I", .fieldLink RX0 20 "PeerCircle$Farm" "soldEver" "I", .fieldLink RX0 23 "PeerCircle$Farm" "soldThisYear" "I", .fieldLink RX0 26 "PeerCircle$Farm" "doubtful" "I", .fieldLink RX0 29 "PeerCircle$Farm" "family" "I", .fieldLink RX0 32 "PeerCircle$Farm" "group" "I"] ++ wsX50 ++ wsX00)
def wsX5_isFarm : List Cond := .code yX5_isFarm cX5_isFarm 2 (some .boolean) :: ([.fieldLink RX5 50 "PeerCircle" "farmCount" "I", .methodLink RX5 82 yX5_isBelow, .static yX5_isBelow, .initialized RX5, .code yX5_isBelow cX5_isBelow 2 (some .boolean)] ++ wsX50)
def wsX5_areFarms : List Cond := .code yX5_areFarms cX5_areFarms 3 (some .boolean) :: ([.methodLink RX5 129 yX5_isFarm, .instanceMethod yX5_isFarm, .selects RX5 yX5_isFarm yX5_isFarm, .initialized RX5, .code yX5_isFarm cX5_isFarm 2 (some .boolean), .fieldLink RX5 50 "PeerCircle" "farmCount" "I", .methodLink RX5 82 yX5_isBelow, .static yX5_isBelow, .code yX5_isBelow cX5_isBelow 2 (some .boolean)] ++ wsX50)
def wsX5_buysFrom : List Cond := .code yX5_buysFrom cX5_buysFrom 3 (some .boolean) :: ([.fieldLink RX5 43 "PeerCircle" "sellers" "[I", .methodLink RX5 153 yX5_hasBit, .static yX5_hasBit, .initialized RX5, .code yX5_hasBit cX5_hasBit 2 (some .boolean)] ++ wsX50)
def wsX5_buys : List Cond := .code yX5_buys cX5_buys 4 (some .boolean) :: ([.fieldLink RX5 43 "PeerCircle" "sellers" "[I", .methodLink RX5 89 yX5_areFarms, .instanceMethod yX5_areFarms, .selects RX5 yX5_areFarms yX5_areFarms, .initialized RX5, .code yX5_areFarms cX5_areFarms 3 (some .boolean), .methodLink RX5 129 yX5_isFarm, .instanceMethod yX5_isFarm, .selects RX5 yX5_isFarm yX5_isFarm, .code yX5_isFarm cX5_isFarm 2 (some .boolean), .fieldLink RX5 50 "PeerCircle" "farmCount" "I", .methodLink RX5 82 yX5_isBelow, .static yX5_isBelow, .code yX5_isBelow cX5_isBelow 2 (some .boolean), .methodLink RX5 92 yX5_buysFrom, .instanceMethod yX5_buysFrom, .selects RX5 yX5_buysFrom yX5_buysFrom, .code yX5_buysFrom cX5_buysFrom 3 (some .boolean), .methodLink RX5 153 yX5_hasBit, .static yX5_hasBit, .code yX5_hasBit cX5_hasBit 2 (some .boolean)] ++ wsX50)
def wsX5_weight : List Cond := .code yX5_weight cX5_weight 3 (some .boolean) :: ([.fieldLink RX5 47 "PeerCircle" "weights" "[I", .methodLink RX5 82 yX5_isBelow, .static yX5_isBelow, .initialized RX5, .code yX5_isBelow cX5_isBelow 2 (some .boolean)] ++ wsX50)
def wsX5_farmAt : List Cond := .code yX5_farmAt cX5_farmAt 2 (some (.object "PeerCircle$Farm")) :: ([.fieldLink RX5 39 "PeerCircle" "farms" "[LPeerCircle$Farm;", .methodLink RX5 129 yX5_isFarm, .instanceMethod yX5_isFarm, .selects RX5 yX5_isFarm yX5_isFarm, .initialized RX5, .code yX5_isFarm cX5_isFarm 2 (some .boolean), .fieldLink RX5 50 "PeerCircle" "farmCount" "I", .methodLink RX5 82 yX5_isBelow, .static yX5_isBelow, .code yX5_isBelow cX5_isBelow 2 (some .boolean)] ++ wsX50)
def wsX5_areKin : List Cond := .code yX5_areKin cX5_areKin 5 (some .boolean) :: ([.fieldLink RX5 191 "PeerCircle$Farm" "family" "I", .methodLink RX5 163 yX5_farmAt, .instanceMethod yX5_farmAt, .selects RX5 yX5_farmAt yX5_farmAt, .initialized RX5, .code yX5_farmAt cX5_farmAt 2 (some (.object "PeerCircle$Farm")), .fieldLink RX5 39 "PeerCircle" "farms" "[LPeerCircle$Farm;", .methodLink RX5 129 yX5_isFarm, .instanceMethod yX5_isFarm, .selects RX5 yX5_isFarm yX5_isFarm, .code yX5_isFarm cX5_isFarm 2 (some .boolean), .fieldLink RX5 50 "PeerCircle" "farmCount" "I", .methodLink RX5 82 yX5_isBelow, .static yX5_isBelow, .code yX5_isBelow cX5_isBelow 2 (some .boolean)] ++ wsX00 ++ wsX50)
def wsX5_isBarred_r1 : List Cond := [Cond.fieldLink RX5 26 "PeerCircle" "visits" "LPeerCircle$Visits;", Cond.methodLink RX5 218 yX5_areKin, Cond.instanceMethod yX5_areKin, Cond.selects RX5 yX5_areKin yX5_areKin, Cond.initialized RX5, Cond.code yX5_areKin cX5_areKin 5 (some .boolean), Cond.fieldLink RX5 191 "PeerCircle$Farm" "family" "I", Cond.methodLink RX5 163 yX5_farmAt, Cond.instanceMethod yX5_farmAt, Cond.selects RX5 yX5_farmAt yX5_farmAt, Cond.code yX5_farmAt cX5_farmAt 2 (some (.object "PeerCircle$Farm")), Cond.fieldLink RX5 39 "PeerCircle" "farms" "[LPeerCircle$Farm;", Cond.methodLink RX5 129 yX5_isFarm, Cond.instanceMethod yX5_isFarm, Cond.selects RX5 yX5_isFarm yX5_isFarm, Cond.code yX5_isFarm cX5_isFarm 2 (some .boolean), Cond.fieldLink RX5 50 "PeerCircle" "farmCount" "I", Cond.methodLink RX5 82 yX5_isBelow, Cond.static yX5_isBelow, Cond.code yX5_isBelow cX5_isBelow 2 (some .boolean), Cond.methodLink RX5 92 yX5_buysFrom, Cond.instanceMethod yX5_buysFrom, Cond.selects RX5 yX5_buysFrom yX5_buysFrom, Cond.code yX5_buysFrom cX5_buysFrom 3 (some .boolean)]
def wsX5_isBarred_r2 : List Cond := [Cond.fieldLink RX5 43 "PeerCircle" "sellers" "[I", Cond.methodLink RX5 153 yX5_hasBit, Cond.static yX5_hasBit, Cond.code yX5_hasBit cX5_hasBit 2 (some .boolean), Cond.methodLink RX5 221 yX4_wasVisitor, Cond.instanceMethod yX4_wasVisitor, Cond.selects RX4 yX4_wasVisitor yX4_wasVisitor, Cond.initialized RX4, Cond.code yX4_wasVisitor cX4_wasVisitor 3 (some .boolean), Cond.fieldLink RX4 15 "PeerCircle$Visits" "visitorsBefore" "[I"]
def wsX5_isBarred : List Cond := .code yX5_isBarred cX5_isBarred 3 (some .boolean) :: ((wsX5_isBarred_r1 ++ wsX5_isBarred_r2) ++ wsX50 ++ wsX00 ++ wsX40)
def wsX5_lay_r1 : List Cond := [Cond.fieldLink RX5 26 "PeerCircle" "visits" "LPeerCircle$Visits;", Cond.fieldLink RX5 33 "PeerCircle" "planner" "LPeerCircle$Planner;", Cond.fieldLink RX5 19 "PeerCircle" "ruling" "LPeerCircle$Rules;", Cond.fieldLink RX5 50 "PeerCircle" "farmCount" "I", Cond.methodLink RX5 95 yX4_areLaid, Cond.instanceMethod yX4_areLaid, Cond.selects RX4 yX4_areLaid yX4_areLaid, Cond.initialized RX4, Cond.code yX4_areLaid cX4_areLaid 1 (some .boolean), Cond.fieldLink RX4 23 "PeerCircle$Visits" "laid" "Z", Cond.methodLink RX5 98 yX2_number, Cond.instanceMethod yX2_number, Cond.selects RX2 yX2_number yX2_number, Cond.initialized RX2, Cond.code yX2_number cX2_number 2 (some .int), Cond.fieldLink RX2 11 "PeerCircle$Rules" "numbers" "[I", Cond.static yX5_isBelow, Cond.initialized RX5, Cond.code yX5_isBelow cX5_isBelow 2 (some .boolean), Cond.methodLink RX5 102 yX1_begin, Cond.instanceMethod yX1_begin, Cond.selects RX1 yX1_begin yX1_begin, Cond.initialized RX1, Cond.code yX1_begin cX1_begin 3 none]
def wsX5_lay_r2 : List Cond := [Cond.fieldLink RX1 27 "PeerCircle$Planner" "mostVisitors" "I", Cond.fieldLink RX1 31 "PeerCircle$Planner" "mostVisits" "I", Cond.fieldLink RX1 11 "PeerCircle$Planner" "ways" "[I", Cond.fieldLink RX1 21 "PeerCircle$Planner" "visitors" "[I", Cond.fieldLink RX1 24 "PeerCircle$Planner" "visitsMade" "[I", Cond.methodLink RX1 34 yJ7_fill_53178, Cond.static yJ7_fill_53178, Cond.initialized RJ7, Cond.code yJ7_fill_53178 cJ7_fill_53178 4 none, Cond.methodLink RX5 105 yX5_isBarred, Cond.instanceMethod yX5_isBarred, Cond.selects RX5 yX5_isBarred yX5_isBarred, Cond.code yX5_isBarred cX5_isBarred 3 (some .boolean), Cond.methodLink RX5 218 yX5_areKin, Cond.instanceMethod yX5_areKin, Cond.selects RX5 yX5_areKin yX5_areKin, Cond.code yX5_areKin cX5_areKin 5 (some .boolean), Cond.fieldLink RX5 191 "PeerCircle$Farm" "family" "I", Cond.methodLink RX5 163 yX5_farmAt, Cond.instanceMethod yX5_farmAt, Cond.selects RX5 yX5_farmAt yX5_farmAt, Cond.code yX5_farmAt cX5_farmAt 2 (some (.object "PeerCircle$Farm")), Cond.fieldLink RX5 39 "PeerCircle" "farms" "[LPeerCircle$Farm;", Cond.methodLink RX5 129 yX5_isFarm]
def wsX5_lay_r3 : List Cond := [Cond.instanceMethod yX5_isFarm, Cond.selects RX5 yX5_isFarm yX5_isFarm, Cond.code yX5_isFarm cX5_isFarm 2 (some .boolean), Cond.methodLink RX5 82 yX5_isBelow, Cond.methodLink RX5 92 yX5_buysFrom, Cond.instanceMethod yX5_buysFrom, Cond.selects RX5 yX5_buysFrom yX5_buysFrom, Cond.code yX5_buysFrom cX5_buysFrom 3 (some .boolean), Cond.fieldLink RX5 43 "PeerCircle" "sellers" "[I", Cond.methodLink RX5 153 yX5_hasBit, Cond.static yX5_hasBit, Cond.code yX5_hasBit cX5_hasBit 2 (some .boolean), Cond.methodLink RX5 221 yX4_wasVisitor, Cond.instanceMethod yX4_wasVisitor, Cond.selects RX4 yX4_wasVisitor yX4_wasVisitor, Cond.code yX4_wasVisitor cX4_wasVisitor 3 (some .boolean), Cond.fieldLink RX4 15 "PeerCircle$Visits" "visitorsBefore" "[I", Cond.methodLink RX5 108 yX1_allow, Cond.instanceMethod yX1_allow, Cond.selects RX1 yX1_allow yX1_allow, Cond.code yX1_allow cX1_allow 3 none, Cond.methodLink RX1 40 yX1_placeVisited, Cond.static yX1_placeVisited, Cond.code yX1_placeVisited cX1_placeVisited 1 (some .int)]
def wsX5_lay_r4 : List Cond := [Cond.methodLink RX1 44 yX1_setWay, Cond.instanceMethod yX1_setWay, Cond.selects RX1 yX1_setWay yX1_setWay, Cond.code yX1_setWay cX1_setWay 4 none, Cond.methodLink RX1 48 yX1_openByLimits, Cond.instanceMethod yX1_openByLimits, Cond.selects RX1 yX1_openByLimits yX1_openByLimits, Cond.code yX1_openByLimits cX1_openByLimits 5 none, Cond.methodLink RX1 65 yJ6_bitCount_0f7a4, Cond.static yJ6_bitCount_0f7a4, Cond.initialized RJ6, Cond.code yJ6_bitCount_0f7a4 cJ6_bitCount_0f7a4 1 (some .int), Cond.constant RJ6 265 (1431655765), Cond.constant RJ6 266 (858993459), Cond.constant RJ6 267 (252645135), Cond.methodLink RX5 111 yX1_planMost, Cond.instanceMethod yX1_planMost, Cond.selects RX1 yX1_planMost yX1_planMost, Cond.code yX1_planMost cX1_planMost 2 none, Cond.methodLink RX1 52 yX1_findPath, Cond.instanceMethod yX1_findPath, Cond.selects RX1 yX1_findPath yX1_findPath, Cond.code yX1_findPath cX1_findPath 10 (some .boolean), Cond.fieldLink RX1 18 "PeerCircle$Planner" "queue" "[I"]
def wsX5_lay_r5 : List Cond := [Cond.fieldLink RX1 15 "PeerCircle$Planner" "cameFrom" "[I", Cond.methodLink RX1 70 yX1_lowestBit, Cond.static yX1_lowestBit, Cond.code yX1_lowestBit cX1_lowestBit 1 (some .int), Cond.methodLink RX1 56 yX1_followPath, Cond.instanceMethod yX1_followPath, Cond.selects RX1 yX1_followPath yX1_followPath, Cond.code yX1_followPath cX1_followPath 6 none, Cond.methodLink RX1 73 yX1_moveVisit, Cond.instanceMethod yX1_moveVisit, Cond.selects RX1 yX1_moveVisit yX1_moveVisit, Cond.code yX1_moveVisit cX1_moveVisit 3 none, Cond.methodLink RX1 62 yX1_addVisit, Cond.instanceMethod yX1_addVisit, Cond.selects RX1 yX1_addVisit yX1_addVisit, Cond.code yX1_addVisit cX1_addVisit 3 none, Cond.methodLink RX1 79 yX1_dropVisit, Cond.instanceMethod yX1_dropVisit, Cond.selects RX1 yX1_dropVisit yX1_dropVisit, Cond.code yX1_dropVisit cX1_dropVisit 3 none, Cond.methodLink RX5 114 yX1_planLeastRow, Cond.instanceMethod yX1_planLeastRow, Cond.selects RX1 yX1_planLeastRow yX1_planLeastRow, Cond.code yX1_planLeastRow cX1_planLeastRow 5 none]
def wsX5_lay_r6 : List Cond := [Cond.methodLink RX5 117 yX1_visitorsOf, Cond.instanceMethod yX1_visitorsOf, Cond.selects RX1 yX1_visitorsOf yX1_visitorsOf, Cond.code yX1_visitorsOf cX1_visitorsOf 2 (some .int), Cond.methodLink RX5 120 yX4_setVisitors, Cond.instanceMethod yX4_setVisitors, Cond.selects RX4 yX4_setVisitors yX4_setVisitors, Cond.code yX4_setVisitors cX4_setVisitors 3 none, Cond.fieldLink RX4 9 "PeerCircle$Visits" "visitors" "[I", Cond.methodLink RX5 123 yX4_setLaid, Cond.instanceMethod yX4_setLaid, Cond.selects RX4 yX4_setLaid yX4_setLaid, Cond.code yX4_setLaid cX4_setLaid 1 none, Cond.methodLink RX5 126 yX4_total, Cond.instanceMethod yX4_total, Cond.selects RX4 yX4_total yX4_total, Cond.code yX4_total cX4_total 3 (some .int), Cond.methodLink RX4 44 yX4_visitorCount, Cond.instanceMethod yX4_visitorCount, Cond.selects RX4 yX4_visitorCount yX4_visitorCount, Cond.code yX4_visitorCount cX4_visitorCount 2 (some .int), Cond.methodLink RX4 31 yJ6_bitCount_0f7a4]
def wsX5_lay : List Cond := .code yX5_lay cX5_lay 3 (some .int) :: ((wsX5_lay_r1 ++ (wsX5_lay_r2 ++ (wsX5_lay_r3 ++ (wsX5_lay_r4 ++ (wsX5_lay_r5 ++ wsX5_lay_r6))))) ++ wsX50 ++ wsX40 ++ wsX20 ++ wsX10 ++ wsX00)
def wsX5_visitor : List Cond := .code yX5_visitor cX5_visitor 3 (some .int) :: ([.fieldLink RX5 26 "PeerCircle" "visits" "LPeerCircle$Visits;", .methodLink RX5 129 yX5_isFarm, .instanceMethod yX5_isFarm, .selects RX5 yX5_isFarm yX5_isFarm, .initialized RX5, .code yX5_isFarm cX5_isFarm 2 (some .boolean), .fieldLink RX5 50 "PeerCircle" "farmCount" "I", .methodLink RX5 82 yX5_isBelow, .static yX5_isBelow, .code yX5_isBelow cX5_isBelow 2 (some .boolean), .methodLink RX5 133 yX4_visitorAt, .instanceMethod yX4_visitorAt, .selects RX4 yX4_visitorAt yX4_visitorAt, .initialized RX4, .code yX4_visitorAt cX4_visitorAt 5 (some .int), .methodLink RX4 37 yX4_isVisitor, .instanceMethod yX4_isVisitor, .selects RX4 yX4_isVisitor yX4_isVisitor, .code yX4_isVisitor cX4_isVisitor 3 (some .boolean), .fieldLink RX4 9 "PeerCircle$Visits" "visitors" "[I", .static yX5_hasBit, .code yX5_hasBit cX5_hasBit 2 (some .boolean)] ++ wsX50 ++ wsX40)
def wsX5_tells_r1 : List Cond := [Cond.fieldLink RX5 26 "PeerCircle" "visits" "LPeerCircle$Visits;", Cond.methodLink RX5 89 yX5_areFarms, Cond.instanceMethod yX5_areFarms, Cond.selects RX5 yX5_areFarms yX5_areFarms, Cond.initialized RX5, Cond.code yX5_areFarms cX5_areFarms 3 (some .boolean), Cond.methodLink RX5 129 yX5_isFarm, Cond.instanceMethod yX5_isFarm, Cond.selects RX5 yX5_isFarm yX5_isFarm, Cond.code yX5_isFarm cX5_isFarm 2 (some .boolean), Cond.fieldLink RX5 50 "PeerCircle" "farmCount" "I", Cond.methodLink RX5 82 yX5_isBelow, Cond.static yX5_isBelow, Cond.code yX5_isBelow cX5_isBelow 2 (some .boolean), Cond.methodLink RX5 137 yX4_isVisitor, Cond.instanceMethod yX4_isVisitor, Cond.selects RX4 yX4_isVisitor yX4_isVisitor, Cond.initialized RX4, Cond.code yX4_isVisitor cX4_isVisitor 3 (some .boolean), Cond.fieldLink RX4 9 "PeerCircle$Visits" "visitors" "[I", Cond.static yX5_hasBit, Cond.code yX5_hasBit cX5_hasBit 2 (some .boolean), Cond.methodLink RX5 140 yX4_tell, Cond.instanceMethod yX4_tell]
def wsX5_tells_r2 : List Cond := [Cond.selects RX4 yX4_tell yX4_tell, Cond.code yX4_tell cX4_tell 5 none, Cond.fieldLink RX4 20 "PeerCircle$Visits" "told" "[[I"]
def wsX5_tells : List Cond := .code yX5_tells cX5_tells 5 (some .boolean) :: ((wsX5_tells_r1 ++ wsX5_tells_r2) ++ wsX50 ++ wsX40)
def wsX5_breaches : List Cond := .code yX5_breaches cX5_breaches 2 (some .int) :: ([.fieldLink RX5 26 "PeerCircle" "visits" "LPeerCircle$Visits;", .methodLink RX5 129 yX5_isFarm, .instanceMethod yX5_isFarm, .selects RX5 yX5_isFarm yX5_isFarm, .initialized RX5, .code yX5_isFarm cX5_isFarm 2 (some .boolean), .fieldLink RX5 50 "PeerCircle" "farmCount" "I", .methodLink RX5 82 yX5_isBelow, .static yX5_isBelow, .code yX5_isBelow cX5_isBelow 2 (some .boolean), .methodLink RX5 144 yX4_breachesAt, .instanceMethod yX4_breachesAt, .selects RX4 yX4_breachesAt yX4_breachesAt, .initialized RX4, .code yX4_breachesAt cX4_breachesAt 5 (some .int), .fieldLink RX4 20 "PeerCircle$Visits" "told" "[[I"] ++ wsX50 ++ wsX40)
def wsX5_weightOf : List Cond := .code yX5_weightOf cX5_weightOf 4 (some .int) :: ([.fieldLink RX5 47 "PeerCircle" "weights" "[I", .methodLink RX5 153 yX5_hasBit, .static yX5_hasBit, .initialized RX5, .code yX5_hasBit cX5_hasBit 2 (some .boolean)] ++ wsX50)
def wsX5_weighs : List Cond := .code yX5_weighs cX5_weighs 2 (some .int) :: ([.fieldLink RX5 26 "PeerCircle" "visits" "LPeerCircle$Visits;", .methodLink RX5 129 yX5_isFarm, .instanceMethod yX5_isFarm, .selects RX5 yX5_isFarm yX5_isFarm, .initialized RX5, .code yX5_isFarm cX5_isFarm 2 (some .boolean), .fieldLink RX5 50 "PeerCircle" "farmCount" "I", .methodLink RX5 82 yX5_isBelow, .static yX5_isBelow, .code yX5_isBelow cX5_isBelow 2 (some .boolean), .methodLink RX5 144 yX4_breachesAt, .instanceMethod yX4_breachesAt, .selects RX4 yX4_breachesAt yX4_breachesAt, .initialized RX4, .code yX4_breachesAt cX4_breachesAt 5 (some .int), .fieldLink RX4 20 "PeerCircle$Visits" "told" "[[I", .methodLink RX5 147 yX5_weightOf, .instanceMethod yX5_weightOf, .selects RX5 yX5_weightOf yX5_weightOf, .code yX5_weightOf cX5_weightOf 4 (some .int), .fieldLink RX5 47 "PeerCircle" "weights" "[I", .methodLink RX5 153 yX5_hasBit, .static yX5_hasBit, .code yX5_hasBit cX5_hasBit 2 (some .boolean)] ++ wsX50 ++ wsX40)
def wsX5_vouches_r1 : List Cond := [Cond.fieldLink RX5 26 "PeerCircle" "visits" "LPeerCircle$Visits;", Cond.methodLink RX5 89 yX5_areFarms, Cond.instanceMethod yX5_areFarms, Cond.selects RX5 yX5_areFarms yX5_areFarms, Cond.initialized RX5, Cond.code yX5_areFarms cX5_areFarms 3 (some .boolean), Cond.methodLink RX5 129 yX5_isFarm, Cond.instanceMethod yX5_isFarm, Cond.selects RX5 yX5_isFarm yX5_isFarm, Cond.code yX5_isFarm cX5_isFarm 2 (some .boolean), Cond.fieldLink RX5 50 "PeerCircle" "farmCount" "I", Cond.methodLink RX5 82 yX5_isBelow, Cond.static yX5_isBelow, Cond.code yX5_isBelow cX5_isBelow 2 (some .boolean), Cond.methodLink RX5 150 yX4_vouchersFor, Cond.instanceMethod yX4_vouchersFor, Cond.selects RX4 yX4_vouchersFor yX4_vouchersFor, Cond.initialized RX4, Cond.code yX4_vouchersFor cX4_vouchersFor 4 (some .int), Cond.fieldLink RX4 9 "PeerCircle$Visits" "visitors" "[I", Cond.fieldLink RX4 20 "PeerCircle$Visits" "told" "[[I", Cond.methodLink RX5 153 yX5_hasBit, Cond.static yX5_hasBit, Cond.code yX5_hasBit cX5_hasBit 2 (some .boolean)]
def wsX5_vouches_r2 : List Cond := [Cond.methodLink RX5 156 yX5_oneIf, Cond.static yX5_oneIf, Cond.code yX5_oneIf cX5_oneIf 1 (some .int)]
def wsX5_vouches : List Cond := .code yX5_vouches cX5_vouches 3 (some .int) :: ((wsX5_vouches_r1 ++ wsX5_vouches_r2) ++ wsX50 ++ wsX40)
def wsX5_trust_r1 : List Cond := [Cond.fieldLink RX5 26 "PeerCircle" "visits" "LPeerCircle$Visits;", Cond.methodLink RX5 89 yX5_areFarms, Cond.instanceMethod yX5_areFarms, Cond.selects RX5 yX5_areFarms yX5_areFarms, Cond.initialized RX5, Cond.code yX5_areFarms cX5_areFarms 3 (some .boolean), Cond.methodLink RX5 129 yX5_isFarm, Cond.instanceMethod yX5_isFarm, Cond.selects RX5 yX5_isFarm yX5_isFarm, Cond.code yX5_isFarm cX5_isFarm 2 (some .boolean), Cond.fieldLink RX5 50 "PeerCircle" "farmCount" "I", Cond.methodLink RX5 82 yX5_isBelow, Cond.static yX5_isBelow, Cond.code yX5_isBelow cX5_isBelow 2 (some .boolean), Cond.methodLink RX5 153 yX5_hasBit, Cond.static yX5_hasBit, Cond.code yX5_hasBit cX5_hasBit 2 (some .boolean), Cond.methodLink RX5 160 yX4_vouchedForBy, Cond.instanceMethod yX4_vouchedForBy, Cond.selects RX4 yX4_vouchedForBy yX4_vouchedForBy, Cond.initialized RX4, Cond.code yX4_vouchedForBy cX4_vouchedForBy 4 (some .int), Cond.methodLink RX4 47 yX4_vouchersFor, Cond.instanceMethod yX4_vouchersFor]
def wsX5_trust_r2 : List Cond := [Cond.selects RX4 yX4_vouchersFor yX4_vouchersFor, Cond.code yX4_vouchersFor cX4_vouchersFor 4 (some .int), Cond.fieldLink RX4 9 "PeerCircle$Visits" "visitors" "[I", Cond.fieldLink RX4 20 "PeerCircle$Visits" "told" "[[I"]
def wsX5_trust : List Cond := .code yX5_trust cX5_trust 5 (some .int) :: ((wsX5_trust_r1 ++ wsX5_trust_r2) ++ wsX50 ++ wsX40)
def wsX5_sell : List Cond := .code yX5_sell cX5_sell 4 (some .boolean) :: ([.fieldLink RX5 167 "PeerCircle$Farm" "hasSeal" "Z", .methodLink RX5 163 yX5_farmAt, .instanceMethod yX5_farmAt, .selects RX5 yX5_farmAt yX5_farmAt, .initialized RX5, .code yX5_farmAt cX5_farmAt 2 (some (.object "PeerCircle$Farm")), .fieldLink RX5 39 "PeerCircle" "farms" "[LPeerCircle$Farm;", .methodLink RX5 129 yX5_isFarm, .instanceMethod yX5_isFarm, .selects RX5 yX5_isFarm yX5_isFarm, .code yX5_isFarm cX5_isFarm 2 (some .boolean), .fieldLink RX5 50 "PeerCircle" "farmCount" "I", .methodLink RX5 82 yX5_isBelow, .static yX5_isBelow, .code yX5_isBelow cX5_isBelow 2 (some .boolean), .methodLink RX5 171 yX0_sellBaskets, .instanceMethod yX0_sellBaskets, .selects RX0 yX0_sellBaskets yX0_sellBaskets, .initialized RX0, .code yX0_sellBaskets cX0_sellBaskets 2 none, .fieldLink RX0 20 "PeerCircle$Farm" "soldEver" "I", .fieldLink RX0 23 "PeerCircle$Farm" "soldThisYear" "I"] ++ wsX00 ++ wsX50)
def wsX5_year_r1 : List Cond := [Cond.fieldLink RX5 26 "PeerCircle" "visits" "LPeerCircle$Visits;", Cond.fieldLink RX5 54 "PeerCircle" "yearNow" "I", Cond.fieldLink RX5 50 "PeerCircle" "farmCount" "I", Cond.fieldLink RX5 19 "PeerCircle" "ruling" "LPeerCircle$Rules;", Cond.methodLink RX5 95 yX4_areLaid, Cond.instanceMethod yX4_areLaid, Cond.selects RX4 yX4_areLaid yX4_areLaid, Cond.initialized RX4, Cond.code yX4_areLaid cX4_areLaid 1 (some .boolean), Cond.fieldLink RX4 23 "PeerCircle$Visits" "laid" "Z", Cond.methodLink RX5 163 yX5_farmAt, Cond.instanceMethod yX5_farmAt, Cond.selects RX5 yX5_farmAt yX5_farmAt, Cond.initialized RX5, Cond.code yX5_farmAt cX5_farmAt 2 (some (.object "PeerCircle$Farm")), Cond.fieldLink RX5 39 "PeerCircle" "farms" "[LPeerCircle$Farm;", Cond.methodLink RX5 129 yX5_isFarm, Cond.instanceMethod yX5_isFarm, Cond.selects RX5 yX5_isFarm yX5_isFarm, Cond.code yX5_isFarm cX5_isFarm 2 (some .boolean), Cond.methodLink RX5 82 yX5_isBelow, Cond.static yX5_isBelow, Cond.code yX5_isBelow cX5_isBelow 2 (some .boolean), Cond.methodLink RX5 144 yX4_breachesAt]
def wsX5_year_r2 : List Cond := [Cond.instanceMethod yX4_breachesAt, Cond.selects RX4 yX4_breachesAt yX4_breachesAt, Cond.code yX4_breachesAt cX4_breachesAt 5 (some .int), Cond.fieldLink RX4 20 "PeerCircle$Visits" "told" "[[I", Cond.methodLink RX5 174 yX0_countDoubtful, Cond.instanceMethod yX0_countDoubtful, Cond.selects RX0 yX0_countDoubtful yX0_countDoubtful, Cond.initialized RX0, Cond.code yX0_countDoubtful cX0_countDoubtful 2 none, Cond.fieldLink RX0 26 "PeerCircle$Farm" "doubtful" "I", Cond.fieldLink RX0 23 "PeerCircle$Farm" "soldThisYear" "I", Cond.methodLink RX5 147 yX5_weightOf, Cond.instanceMethod yX5_weightOf, Cond.selects RX5 yX5_weightOf yX5_weightOf, Cond.code yX5_weightOf cX5_weightOf 4 (some .int), Cond.fieldLink RX5 47 "PeerCircle" "weights" "[I", Cond.methodLink RX5 153 yX5_hasBit, Cond.static yX5_hasBit, Cond.code yX5_hasBit cX5_hasBit 2 (some .boolean), Cond.methodLink RX5 178 yX4_visitorCount, Cond.instanceMethod yX4_visitorCount, Cond.selects RX4 yX4_visitorCount yX4_visitorCount, Cond.code yX4_visitorCount cX4_visitorCount 2 (some .int), Cond.fieldLink RX4 9 "PeerCircle$Visits" "visitors" "[I"]
def wsX5_year_r3 : List Cond := [Cond.methodLink RX4 31 yJ6_bitCount_0f7a4, Cond.static yJ6_bitCount_0f7a4, Cond.initialized RJ6, Cond.code yJ6_bitCount_0f7a4 cJ6_bitCount_0f7a4 1 (some .int), Cond.constant RJ6 265 (1431655765), Cond.constant RJ6 266 (858993459), Cond.constant RJ6 267 (252645135), Cond.methodLink RX5 181 yX0_goOn, Cond.instanceMethod yX0_goOn, Cond.selects RX0 yX0_goOn yX0_goOn, Cond.code yX0_goOn cX0_goOn 4 none, Cond.fieldLink RX0 17 "PeerCircle$Farm" "yearsOut" "I", Cond.fieldLink RX0 13 "PeerCircle$Farm" "step" "I", Cond.fieldLink RX0 7 "PeerCircle$Farm" "hasSeal" "Z", Cond.methodLink RX0 35 yX0_isOut, Cond.instanceMethod yX0_isOut, Cond.selects RX0 yX0_isOut yX0_isOut, Cond.code yX0_isOut cX0_isOut 1 (some .boolean), Cond.methodLink RX0 39 yX0_changeStep, Cond.instanceMethod yX0_changeStep, Cond.selects RX0 yX0_changeStep yX0_changeStep, Cond.code yX0_changeStep cX0_changeStep 3 none, Cond.methodLink RX0 45 yX2_number, Cond.instanceMethod yX2_number]
def wsX5_year_r4 : List Cond := [Cond.selects RX2 yX2_number yX2_number, Cond.initialized RX2, Cond.code yX2_number cX2_number 2 (some .int), Cond.fieldLink RX2 11 "PeerCircle$Rules" "numbers" "[I", Cond.methodLink RX5 185 yX4_endYear, Cond.instanceMethod yX4_endYear, Cond.selects RX4 yX4_endYear yX4_endYear, Cond.code yX4_endYear cX4_endYear 2 none, Cond.fieldLink RX4 15 "PeerCircle$Visits" "visitorsBefore" "[I", Cond.methodLink RX4 50 arraycopyName, Cond.native arraycopyName, Cond.static arraycopyName, Cond.initialized "java/lang/System", Cond.methodLink RX4 56 yJ7_fill_53178, Cond.static yJ7_fill_53178, Cond.initialized RJ7, Cond.code yJ7_fill_53178 cJ7_fill_53178 4 none]
def wsX5_year : List Cond := .code yX5_year cX5_year 4 (some .int) :: ((wsX5_year_r1 ++ (wsX5_year_r2 ++ (wsX5_year_r3 ++ wsX5_year_r4))) ++ wsX50 ++ wsX40 ++ wsX00 ++ wsX20)
def wsX5_sealed_r1 : List Cond := [Cond.fieldLink RX5 50 "PeerCircle" "farmCount" "I", Cond.fieldLink RX5 188 "PeerCircle$Farm" "group" "I", Cond.fieldLink RX5 167 "PeerCircle$Farm" "hasSeal" "Z", Cond.fieldLink RX5 19 "PeerCircle" "ruling" "LPeerCircle$Rules;", Cond.methodLink RX5 82 yX5_isBelow, Cond.static yX5_isBelow, Cond.initialized RX5, Cond.code yX5_isBelow cX5_isBelow 2 (some .boolean), Cond.methodLink RX5 163 yX5_farmAt, Cond.instanceMethod yX5_farmAt, Cond.selects RX5 yX5_farmAt yX5_farmAt, Cond.code yX5_farmAt cX5_farmAt 2 (some (.object "PeerCircle$Farm")), Cond.fieldLink RX5 39 "PeerCircle" "farms" "[LPeerCircle$Farm;", Cond.methodLink RX5 129 yX5_isFarm, Cond.instanceMethod yX5_isFarm, Cond.selects RX5 yX5_isFarm yX5_isFarm, Cond.code yX5_isFarm cX5_isFarm 2 (some .boolean), Cond.methodLink RX5 156 yX5_oneIf, Cond.static yX5_oneIf, Cond.code yX5_oneIf cX5_oneIf 1 (some .int), Cond.methodLink RX5 98 yX2_number, Cond.instanceMethod yX2_number, Cond.selects RX2 yX2_number yX2_number, Cond.initialized RX2]
def wsX5_sealed_r2 : List Cond := [Cond.code yX2_number cX2_number 2 (some .int), Cond.fieldLink RX2 11 "PeerCircle$Rules" "numbers" "[I"]
def wsX5_sealed : List Cond := .code yX5_sealed cX5_sealed 6 (some .int) :: ((wsX5_sealed_r1 ++ wsX5_sealed_r2) ++ wsX50 ++ wsX00 ++ wsX20)
def wsX5_barred_r1 : List Cond := [Cond.methodLink RX5 89 yX5_areFarms, Cond.instanceMethod yX5_areFarms, Cond.selects RX5 yX5_areFarms yX5_areFarms, Cond.initialized RX5, Cond.code yX5_areFarms cX5_areFarms 3 (some .boolean), Cond.methodLink RX5 129 yX5_isFarm, Cond.instanceMethod yX5_isFarm, Cond.selects RX5 yX5_isFarm yX5_isFarm, Cond.code yX5_isFarm cX5_isFarm 2 (some .boolean), Cond.fieldLink RX5 50 "PeerCircle" "farmCount" "I", Cond.methodLink RX5 82 yX5_isBelow, Cond.static yX5_isBelow, Cond.code yX5_isBelow cX5_isBelow 2 (some .boolean), Cond.methodLink RX5 105 yX5_isBarred, Cond.instanceMethod yX5_isBarred, Cond.selects RX5 yX5_isBarred yX5_isBarred, Cond.code yX5_isBarred cX5_isBarred 3 (some .boolean), Cond.fieldLink RX5 26 "PeerCircle" "visits" "LPeerCircle$Visits;", Cond.methodLink RX5 218 yX5_areKin, Cond.instanceMethod yX5_areKin, Cond.selects RX5 yX5_areKin yX5_areKin, Cond.code yX5_areKin cX5_areKin 5 (some .boolean), Cond.fieldLink RX5 191 "PeerCircle$Farm" "family" "I", Cond.methodLink RX5 163 yX5_farmAt]
def wsX5_barred_r2 : List Cond := [Cond.instanceMethod yX5_farmAt, Cond.selects RX5 yX5_farmAt yX5_farmAt, Cond.code yX5_farmAt cX5_farmAt 2 (some (.object "PeerCircle$Farm")), Cond.fieldLink RX5 39 "PeerCircle" "farms" "[LPeerCircle$Farm;", Cond.methodLink RX5 92 yX5_buysFrom, Cond.instanceMethod yX5_buysFrom, Cond.selects RX5 yX5_buysFrom yX5_buysFrom, Cond.code yX5_buysFrom cX5_buysFrom 3 (some .boolean), Cond.fieldLink RX5 43 "PeerCircle" "sellers" "[I", Cond.methodLink RX5 153 yX5_hasBit, Cond.static yX5_hasBit, Cond.code yX5_hasBit cX5_hasBit 2 (some .boolean), Cond.methodLink RX5 221 yX4_wasVisitor, Cond.instanceMethod yX4_wasVisitor, Cond.selects RX4 yX4_wasVisitor yX4_wasVisitor, Cond.initialized RX4, Cond.code yX4_wasVisitor cX4_wasVisitor 3 (some .boolean), Cond.fieldLink RX4 15 "PeerCircle$Visits" "visitorsBefore" "[I", Cond.methodLink RX5 156 yX5_oneIf, Cond.static yX5_oneIf, Cond.code yX5_oneIf cX5_oneIf 1 (some .int)]
def wsX5_barred : List Cond := .code yX5_barred cX5_barred 3 (some .int) :: ((wsX5_barred_r1 ++ wsX5_barred_r2) ++ wsX50 ++ wsX00 ++ wsX40)
def wsX5_look_r1 : List Cond := [Cond.fieldLink RX5 191 "PeerCircle$Farm" "family" "I", Cond.fieldLink RX5 188 "PeerCircle$Farm" "group" "I", Cond.fieldLink RX5 167 "PeerCircle$Farm" "hasSeal" "Z", Cond.fieldLink RX5 194 "PeerCircle$Farm" "step" "I", Cond.fieldLink RX5 197 "PeerCircle$Farm" "yearsOut" "I", Cond.fieldLink RX5 200 "PeerCircle$Farm" "soldEver" "I", Cond.fieldLink RX5 203 "PeerCircle$Farm" "doubtful" "I", Cond.fieldLink RX5 206 "PeerCircle$Farm" "soldThisYear" "I", Cond.fieldLink RX5 26 "PeerCircle" "visits" "LPeerCircle$Visits;", Cond.methodLink RX5 163 yX5_farmAt, Cond.instanceMethod yX5_farmAt, Cond.selects RX5 yX5_farmAt yX5_farmAt, Cond.initialized RX5, Cond.code yX5_farmAt cX5_farmAt 2 (some (.object "PeerCircle$Farm")), Cond.fieldLink RX5 39 "PeerCircle" "farms" "[LPeerCircle$Farm;", Cond.methodLink RX5 129 yX5_isFarm, Cond.instanceMethod yX5_isFarm, Cond.selects RX5 yX5_isFarm yX5_isFarm, Cond.code yX5_isFarm cX5_isFarm 2 (some .boolean), Cond.fieldLink RX5 50 "PeerCircle" "farmCount" "I", Cond.methodLink RX5 82 yX5_isBelow, Cond.static yX5_isBelow, Cond.code yX5_isBelow cX5_isBelow 2 (some .boolean), Cond.methodLink RX5 156 yX5_oneIf]
def wsX5_look_r2 : List Cond := [Cond.static yX5_oneIf, Cond.code yX5_oneIf cX5_oneIf 1 (some .int), Cond.methodLink RX5 178 yX4_visitorCount, Cond.instanceMethod yX4_visitorCount, Cond.selects RX4 yX4_visitorCount yX4_visitorCount, Cond.initialized RX4, Cond.code yX4_visitorCount cX4_visitorCount 2 (some .int), Cond.fieldLink RX4 9 "PeerCircle$Visits" "visitors" "[I", Cond.methodLink RX4 31 yJ6_bitCount_0f7a4, Cond.static yJ6_bitCount_0f7a4, Cond.initialized RJ6, Cond.code yJ6_bitCount_0f7a4 cJ6_bitCount_0f7a4 1 (some .int), Cond.constant RJ6 265 (1431655765), Cond.constant RJ6 266 (858993459), Cond.constant RJ6 267 (252645135), Cond.methodLink RX5 209 yX4_visitsBy, Cond.instanceMethod yX4_visitsBy, Cond.selects RX4 yX4_visitsBy yX4_visitsBy, Cond.code yX4_visitsBy cX4_visitsBy 4 (some .int), Cond.methodLink RX4 37 yX4_isVisitor, Cond.instanceMethod yX4_isVisitor, Cond.selects RX4 yX4_isVisitor yX4_isVisitor, Cond.code yX4_isVisitor cX4_isVisitor 3 (some .boolean), Cond.static yX5_hasBit]
def wsX5_look_r3 : List Cond := [Cond.code yX5_hasBit cX5_hasBit 2 (some .boolean)]
def wsX5_look : List Cond := .code yX5_look cX5_look 4 (some .int) :: ((wsX5_look_r1 ++ (wsX5_look_r2 ++ wsX5_look_r3)) ++ wsX00 ++ wsX50 ++ wsX40)
def wsX5_countSeals : List Cond := .code yX5_countSeals cX5_countSeals 4 (some .int) :: ([.fieldLink RX5 50 "PeerCircle" "farmCount" "I", .fieldLink RX5 167 "PeerCircle$Farm" "hasSeal" "Z", .methodLink RX5 163 yX5_farmAt, .instanceMethod yX5_farmAt, .selects RX5 yX5_farmAt yX5_farmAt, .initialized RX5, .code yX5_farmAt cX5_farmAt 2 (some (.object "PeerCircle$Farm")), .fieldLink RX5 39 "PeerCircle" "farms" "[LPeerCircle$Farm;", .methodLink RX5 129 yX5_isFarm, .instanceMethod yX5_isFarm, .selects RX5 yX5_isFarm yX5_isFarm, .code yX5_isFarm cX5_isFarm 2 (some .boolean), .methodLink RX5 82 yX5_isBelow, .static yX5_isBelow, .code yX5_isBelow cX5_isBelow 2 (some .boolean)] ++ wsX50 ++ wsX00)
def wsX5_countOut : List Cond := .code yX5_countOut cX5_countOut 4 (some .int) :: ([.fieldLink RX5 50 "PeerCircle" "farmCount" "I", .methodLink RX5 163 yX5_farmAt, .instanceMethod yX5_farmAt, .selects RX5 yX5_farmAt yX5_farmAt, .initialized RX5, .code yX5_farmAt cX5_farmAt 2 (some (.object "PeerCircle$Farm")), .fieldLink RX5 39 "PeerCircle" "farms" "[LPeerCircle$Farm;", .methodLink RX5 129 yX5_isFarm, .instanceMethod yX5_isFarm, .selects RX5 yX5_isFarm yX5_isFarm, .code yX5_isFarm cX5_isFarm 2 (some .boolean), .methodLink RX5 82 yX5_isBelow, .static yX5_isBelow, .code yX5_isBelow cX5_isBelow 2 (some .boolean), .methodLink RX5 224 yX0_isOut, .instanceMethod yX0_isOut, .selects RX0 yX0_isOut yX0_isOut, .initialized RX0, .code yX0_isOut cX0_isOut 1 (some .boolean), .fieldLink RX0 17 "PeerCircle$Farm" "yearsOut" "I"] ++ wsX50 ++ wsX00)
def wsX5_count_r1 : List Cond := [Cond.fieldLink RX5 19 "PeerCircle" "ruling" "LPeerCircle$Rules;", Cond.fieldLink RX5 47 "PeerCircle" "weights" "[I", Cond.fieldLink RX5 50 "PeerCircle" "farmCount" "I", Cond.fieldLink RX5 54 "PeerCircle" "yearNow" "I", Cond.fieldLink RX5 26 "PeerCircle" "visits" "LPeerCircle$Visits;", Cond.fieldLink RX5 10 "PeerCircle" "tape" "LPeerCircle$Tape;", Cond.methodLink RX5 82 yX5_isBelow, Cond.static yX5_isBelow, Cond.initialized RX5, Cond.code yX5_isBelow cX5_isBelow 2 (some .boolean), Cond.methodLink RX5 98 yX2_number, Cond.instanceMethod yX2_number, Cond.selects RX2 yX2_number yX2_number, Cond.initialized RX2, Cond.code yX2_number cX2_number 2 (some .int), Cond.fieldLink RX2 11 "PeerCircle$Rules" "numbers" "[I", Cond.methodLink RX5 95 yX4_areLaid, Cond.instanceMethod yX4_areLaid, Cond.selects RX4 yX4_areLaid yX4_areLaid, Cond.initialized RX4, Cond.code yX4_areLaid cX4_areLaid 1 (some .boolean), Cond.fieldLink RX4 23 "PeerCircle$Visits" "laid" "Z", Cond.methodLink RX5 156 yX5_oneIf, Cond.static yX5_oneIf]
def wsX5_count_r2 : List Cond := [Cond.code yX5_oneIf cX5_oneIf 1 (some .int), Cond.methodLink RX5 126 yX4_total, Cond.instanceMethod yX4_total, Cond.selects RX4 yX4_total yX4_total, Cond.code yX4_total cX4_total 3 (some .int), Cond.methodLink RX4 44 yX4_visitorCount, Cond.instanceMethod yX4_visitorCount, Cond.selects RX4 yX4_visitorCount yX4_visitorCount, Cond.code yX4_visitorCount cX4_visitorCount 2 (some .int), Cond.fieldLink RX4 9 "PeerCircle$Visits" "visitors" "[I", Cond.methodLink RX4 31 yJ6_bitCount_0f7a4, Cond.static yJ6_bitCount_0f7a4, Cond.initialized RJ6, Cond.code yJ6_bitCount_0f7a4 cJ6_bitCount_0f7a4 1 (some .int), Cond.constant RJ6 265 (1431655765), Cond.constant RJ6 266 (858993459), Cond.constant RJ6 267 (252645135), Cond.methodLink RX5 212 yX5_countSeals, Cond.instanceMethod yX5_countSeals, Cond.selects RX5 yX5_countSeals yX5_countSeals, Cond.code yX5_countSeals cX5_countSeals 4 (some .int), Cond.fieldLink RX5 167 "PeerCircle$Farm" "hasSeal" "Z", Cond.methodLink RX5 163 yX5_farmAt, Cond.instanceMethod yX5_farmAt]
def wsX5_count_r3 : List Cond := [Cond.selects RX5 yX5_farmAt yX5_farmAt, Cond.code yX5_farmAt cX5_farmAt 2 (some (.object "PeerCircle$Farm")), Cond.fieldLink RX5 39 "PeerCircle" "farms" "[LPeerCircle$Farm;", Cond.methodLink RX5 129 yX5_isFarm, Cond.instanceMethod yX5_isFarm, Cond.selects RX5 yX5_isFarm yX5_isFarm, Cond.code yX5_isFarm cX5_isFarm 2 (some .boolean), Cond.methodLink RX5 215 yX5_countOut, Cond.instanceMethod yX5_countOut, Cond.selects RX5 yX5_countOut yX5_countOut, Cond.code yX5_countOut cX5_countOut 4 (some .int), Cond.methodLink RX5 224 yX0_isOut, Cond.instanceMethod yX0_isOut, Cond.selects RX0 yX0_isOut yX0_isOut, Cond.initialized RX0, Cond.code yX0_isOut cX0_isOut 1 (some .boolean), Cond.fieldLink RX0 17 "PeerCircle$Farm" "yearsOut" "I", Cond.methodLink RX5 71 yX3_size, Cond.instanceMethod yX3_size, Cond.selects RX3 yX3_size yX3_size, Cond.initialized RX3, Cond.code yX3_size cX3_size 1 (some .int), Cond.fieldLink RX3 13 "PeerCircle$Tape" "size" "I"]
def wsX5_count : List Cond := .code yX5_count cX5_count 2 (some .int) :: ((wsX5_count_r1 ++ (wsX5_count_r2 ++ wsX5_count_r3)) ++ wsX50 ++ wsX20 ++ wsX40 ++ wsX00 ++ wsX30)
def wsX6_asAtFirst : List Cond := .code yX6_asAtFirst cX6_asAtFirst 1 none :: ([])
def wsX6_init_r1 : List Cond := [Cond.methodLink RX6 1 objectInit, Cond.instanceMethod objectInit, Cond.code objectInit ⟨#[0xb1]⟩ 1 none, Cond.arrayClass .byte, Cond.fieldLink RX6 7 "PeerCircleModel" "tape" "[B", Cond.arrayClass .int, Cond.fieldLink RX6 13 "PeerCircleModel" "rule" "[I", Cond.fieldLink RX6 17 "PeerCircleModel" "read" "[I", Cond.fieldLink RX6 20 "PeerCircleModel" "family" "[I", Cond.fieldLink RX6 23 "PeerCircleModel" "group" "[I", Cond.fieldLink RX6 26 "PeerCircleModel" "weight" "[I", Cond.arrayClass .boolean, Cond.fieldLink RX6 29 "PeerCircleModel" "hasSeal" "[Z", Cond.fieldLink RX6 33 "PeerCircleModel" "step" "[I", Cond.fieldLink RX6 36 "PeerCircleModel" "out" "[I", Cond.fieldLink RX6 39 "PeerCircleModel" "sold" "[I", Cond.fieldLink RX6 42 "PeerCircleModel" "doubtful" "[I", Cond.fieldLink RX6 45 "PeerCircleModel" "now" "[I", Cond.fieldLink RX6 48 "PeerCircleModel" "isBuyer" "[Z", Cond.fieldLink RX6 51 "PeerCircleModel" "visits" "[Z", Cond.fieldLink RX6 54 "PeerCircleModel" "had" "[Z", Cond.fieldLink RX6 57 "PeerCircleModel" "broken" "[I", Cond.fieldLink RX6 60 "PeerCircleModel" "fixed" "[Z", Cond.fieldLink RX6 63 "PeerCircleModel" "open" "[Z"]
def wsX6_init_r2 : List Cond := [Cond.fieldLink RX6 66 "PeerCircleModel" "flow" "[Z", Cond.fieldLink RX6 69 "PeerCircleModel" "makes" "[I", Cond.fieldLink RX6 72 "PeerCircleModel" "gets" "[I", Cond.fieldLink RX6 75 "PeerCircleModel" "toVisitor" "[I", Cond.fieldLink RX6 78 "PeerCircleModel" "toFarm" "[I", Cond.fieldLink RX6 81 "PeerCircleModel" "queue" "[I", Cond.fieldLink RX6 84 "PeerCircleModel" "far" "[I", Cond.methodLink RX6 87 yX6_asAtFirst, Cond.static yX6_asAtFirst, Cond.initialized RX6, Cond.code yX6_asAtFirst cX6_asAtFirst 1 none]
def wsX6_init : List Cond := .code yX6_init cX6_init 2 none :: ((wsX6_init_r1 ++ wsX6_init_r2) ++ wsX60)
def wsX6_lies : List Cond := .code yX6_lies cX6_lies 3 (some .boolean) :: ([])
def wsX6_push : List Cond := .code yX6_push cX6_push 3 none :: ([.fieldLink RX6 7 "PeerCircleModel" "tape" "[B", .fieldLink RX6 91 "PeerCircleModel" "taped" "I"] ++ wsX60)
def wsX6_feed : List Cond := .code yX6_feed cX6_feed 6 (some .int) :: ([.fieldLink RX6 91 "PeerCircleModel" "taped" "I", .methodLink RX6 95 yX6_push, .instanceMethod yX6_push, .selects RX6 yX6_push yX6_push, .initialized RX6, .code yX6_push cX6_push 3 none, .fieldLink RX6 7 "PeerCircleModel" "tape" "[B"] ++ wsX60)
def wsX6_letter : List Cond := .code yX6_letter cX6_letter 1 (some .int) :: ([])
def wsX6_canBe : List Cond := .code yX6_canBe cX6_canBe 2 (some .boolean) :: ([.methodLink RX6 99 yX6_lies, .static yX6_lies, .initialized RX6, .code yX6_lies cX6_lies 3 (some .boolean)])
def wsX6_at : List Cond := .code yX6_at cX6_at 3 (some .int) :: ([.fieldLink RX6 7 "PeerCircleModel" "tape" "[B"] ++ wsX60)
def wsX6_reads : List Cond := .code yX6_reads cX6_reads 7 (some .int) :: ([.fieldLink RX6 17 "PeerCircleModel" "read" "[I", .methodLink RX6 87 yX6_asAtFirst, .static yX6_asAtFirst, .initialized RX6, .code yX6_asAtFirst cX6_asAtFirst 1 none, .methodLink RX6 103 yX6_at, .instanceMethod yX6_at, .selects RX6 yX6_at yX6_at, .code yX6_at cX6_at 3 (some .int), .fieldLink RX6 7 "PeerCircleModel" "tape" "[B", .methodLink RX6 107 yX6_letter, .static yX6_letter, .code yX6_letter cX6_letter 1 (some .int), .methodLink RX6 99 yX6_lies, .static yX6_lies, .code yX6_lies cX6_lies 3 (some .boolean), .methodLink RX6 111 yX6_canBe, .static yX6_canBe, .code yX6_canBe cX6_canBe 2 (some .boolean)] ++ wsX60)
def wsX6_rules_r1 : List Cond := [Cond.fieldLink RX6 91 "PeerCircleModel" "taped" "I", Cond.fieldLink RX6 13 "PeerCircleModel" "rule" "[I", Cond.fieldLink RX6 17 "PeerCircleModel" "read" "[I", Cond.methodLink RX6 115 yX6_reads, Cond.instanceMethod yX6_reads, Cond.selects RX6 yX6_reads yX6_reads, Cond.initialized RX6, Cond.code yX6_reads cX6_reads 7 (some .int), Cond.methodLink RX6 87 yX6_asAtFirst, Cond.static yX6_asAtFirst, Cond.code yX6_asAtFirst cX6_asAtFirst 1 none, Cond.methodLink RX6 103 yX6_at, Cond.instanceMethod yX6_at, Cond.selects RX6 yX6_at yX6_at, Cond.code yX6_at cX6_at 3 (some .int), Cond.fieldLink RX6 7 "PeerCircleModel" "tape" "[B", Cond.methodLink RX6 107 yX6_letter, Cond.static yX6_letter, Cond.code yX6_letter cX6_letter 1 (some .int), Cond.methodLink RX6 99 yX6_lies, Cond.static yX6_lies, Cond.code yX6_lies cX6_lies 3 (some .boolean), Cond.methodLink RX6 111 yX6_canBe, Cond.static yX6_canBe]
def wsX6_rules_r2 : List Cond := [Cond.code yX6_canBe cX6_canBe 2 (some .boolean)]
def wsX6_rules : List Cond := .code yX6_rules cX6_rules 4 (some .int) :: ((wsX6_rules_r1 ++ wsX6_rules_r2) ++ wsX60)
def wsX6_isFarm : List Cond := .code yX6_isFarm cX6_isFarm 2 (some .boolean) :: ([.fieldLink RX6 118 "PeerCircleModel" "farms" "I", .methodLink RX6 99 yX6_lies, .static yX6_lies, .initialized RX6, .code yX6_lies cX6_lies 3 (some .boolean)] ++ wsX60)
def wsX6_farm : List Cond := .code yX6_farm cX6_farm 3 (some .int) :: ([.fieldLink RX6 118 "PeerCircleModel" "farms" "I", .fieldLink RX6 20 "PeerCircleModel" "family" "[I", .fieldLink RX6 23 "PeerCircleModel" "group" "[I", .methodLink RX6 99 yX6_lies, .static yX6_lies, .initialized RX6, .code yX6_lies cX6_lies 3 (some .boolean)] ++ wsX60)
def wsX6_buys : List Cond := .code yX6_buys cX6_buys 4 (some .boolean) :: ([.fieldLink RX6 48 "PeerCircleModel" "isBuyer" "[Z", .methodLink RX6 121 yX6_isFarm, .instanceMethod yX6_isFarm, .selects RX6 yX6_isFarm yX6_isFarm, .initialized RX6, .code yX6_isFarm cX6_isFarm 2 (some .boolean), .fieldLink RX6 118 "PeerCircleModel" "farms" "I", .methodLink RX6 99 yX6_lies, .static yX6_lies, .code yX6_lies cX6_lies 3 (some .boolean)] ++ wsX60)
def wsX6_weight : List Cond := .code yX6_weight cX6_weight 3 (some .boolean) :: ([.fieldLink RX6 26 "PeerCircleModel" "weight" "[I", .methodLink RX6 99 yX6_lies, .static yX6_lies, .initialized RX6, .code yX6_lies cX6_lies 3 (some .boolean)] ++ wsX60)
def wsX6_isBarred : List Cond := .code yX6_isBarred cX6_isBarred 3 (some .boolean) :: ([.fieldLink RX6 20 "PeerCircleModel" "family" "[I", .fieldLink RX6 48 "PeerCircleModel" "isBuyer" "[Z", .fieldLink RX6 54 "PeerCircleModel" "had" "[Z"] ++ wsX60)
def wsX6_barred : List Cond := .code yX6_barred cX6_barred 3 (some .int) :: ([.methodLink RX6 121 yX6_isFarm, .instanceMethod yX6_isFarm, .selects RX6 yX6_isFarm yX6_isFarm, .initialized RX6, .code yX6_isFarm cX6_isFarm 2 (some .boolean), .fieldLink RX6 118 "PeerCircleModel" "farms" "I", .methodLink RX6 99 yX6_lies, .static yX6_lies, .code yX6_lies cX6_lies 3 (some .boolean), .methodLink RX6 125 yX6_isBarred, .instanceMethod yX6_isBarred, .selects RX6 yX6_isBarred yX6_isBarred, .code yX6_isBarred cX6_isBarred 3 (some .boolean), .fieldLink RX6 20 "PeerCircleModel" "family" "[I", .fieldLink RX6 48 "PeerCircleModel" "isBuyer" "[Z", .fieldLink RX6 54 "PeerCircleModel" "had" "[Z"] ++ wsX60)
def wsX6_turns : List Cond := .code yX6_turns cX6_turns 4 none :: ([.fieldLink RX6 72 "PeerCircleModel" "gets" "[I", .fieldLink RX6 78 "PeerCircleModel" "toFarm" "[I", .fieldLink RX6 75 "PeerCircleModel" "toVisitor" "[I", .fieldLink RX6 66 "PeerCircleModel" "flow" "[Z", .fieldLink RX6 69 "PeerCircleModel" "makes" "[I"] ++ wsX60)
def wsX6_grows : List Cond := .code yX6_grows cX6_grows 6 (some .boolean) :: ([.fieldLink RX6 75 "PeerCircleModel" "toVisitor" "[I", .fieldLink RX6 78 "PeerCircleModel" "toFarm" "[I", .fieldLink RX6 118 "PeerCircleModel" "farms" "I", .fieldLink RX6 69 "PeerCircleModel" "makes" "[I", .fieldLink RX6 13 "PeerCircleModel" "rule" "[I", .fieldLink RX6 81 "PeerCircleModel" "queue" "[I", .fieldLink RX6 63 "PeerCircleModel" "open" "[Z", .fieldLink RX6 66 "PeerCircleModel" "flow" "[Z", .fieldLink RX6 72 "PeerCircleModel" "gets" "[I", .methodLink RX6 128 yX6_turns, .instanceMethod yX6_turns, .selects RX6 yX6_turns yX6_turns, .initialized RX6, .code yX6_turns cX6_turns 4 none] ++ wsX60)
def wsX6_most : List Cond := .code yX6_most cX6_most 3 (some .int) :: ([.fieldLink RX6 69 "PeerCircleModel" "makes" "[I", .fieldLink RX6 72 "PeerCircleModel" "gets" "[I", .fieldLink RX6 66 "PeerCircleModel" "flow" "[Z", .fieldLink RX6 60 "PeerCircleModel" "fixed" "[Z", .fieldLink RX6 13 "PeerCircleModel" "rule" "[I", .methodLink RX6 131 yX6_grows, .instanceMethod yX6_grows, .selects RX6 yX6_grows yX6_grows, .initialized RX6, .code yX6_grows cX6_grows 6 (some .boolean), .fieldLink RX6 75 "PeerCircleModel" "toVisitor" "[I", .fieldLink RX6 78 "PeerCircleModel" "toFarm" "[I", .fieldLink RX6 118 "PeerCircleModel" "farms" "I", .fieldLink RX6 81 "PeerCircleModel" "queue" "[I", .fieldLink RX6 63 "PeerCircleModel" "open" "[Z", .methodLink RX6 128 yX6_turns, .instanceMethod yX6_turns, .selects RX6 yX6_turns yX6_turns, .code yX6_turns cX6_turns 4 none] ++ wsX60)
def wsX6_lay_r1 : List Cond := [Cond.fieldLink RX6 135 "PeerCircleModel" "isLaid" "Z", Cond.fieldLink RX6 60 "PeerCircleModel" "fixed" "[Z", Cond.fieldLink RX6 63 "PeerCircleModel" "open" "[Z", Cond.fieldLink RX6 118 "PeerCircleModel" "farms" "I", Cond.fieldLink RX6 51 "PeerCircleModel" "visits" "[Z", Cond.fieldLink RX6 57 "PeerCircleModel" "broken" "[I", Cond.methodLink RX6 125 yX6_isBarred, Cond.instanceMethod yX6_isBarred, Cond.selects RX6 yX6_isBarred yX6_isBarred, Cond.initialized RX6, Cond.code yX6_isBarred cX6_isBarred 3 (some .boolean), Cond.fieldLink RX6 20 "PeerCircleModel" "family" "[I", Cond.fieldLink RX6 48 "PeerCircleModel" "isBuyer" "[Z", Cond.fieldLink RX6 54 "PeerCircleModel" "had" "[Z", Cond.methodLink RX6 139 yX6_most, Cond.instanceMethod yX6_most, Cond.selects RX6 yX6_most yX6_most, Cond.code yX6_most cX6_most 3 (some .int), Cond.fieldLink RX6 69 "PeerCircleModel" "makes" "[I", Cond.fieldLink RX6 72 "PeerCircleModel" "gets" "[I", Cond.fieldLink RX6 66 "PeerCircleModel" "flow" "[Z", Cond.fieldLink RX6 13 "PeerCircleModel" "rule" "[I", Cond.methodLink RX6 131 yX6_grows, Cond.instanceMethod yX6_grows]
def wsX6_lay_r2 : List Cond := [Cond.selects RX6 yX6_grows yX6_grows, Cond.code yX6_grows cX6_grows 6 (some .boolean), Cond.fieldLink RX6 75 "PeerCircleModel" "toVisitor" "[I", Cond.fieldLink RX6 78 "PeerCircleModel" "toFarm" "[I", Cond.fieldLink RX6 81 "PeerCircleModel" "queue" "[I", Cond.methodLink RX6 128 yX6_turns, Cond.instanceMethod yX6_turns, Cond.selects RX6 yX6_turns yX6_turns, Cond.code yX6_turns cX6_turns 4 none]
def wsX6_lay : List Cond := .code yX6_lay cX6_lay 5 (some .int) :: ((wsX6_lay_r1 ++ wsX6_lay_r2) ++ wsX60)
def wsX6_isVisit : List Cond := .code yX6_isVisit cX6_isVisit 3 (some .boolean) :: ([.fieldLink RX6 135 "PeerCircleModel" "isLaid" "Z", .fieldLink RX6 51 "PeerCircleModel" "visits" "[Z"] ++ wsX60)
def wsX6_visitorsOf : List Cond := .code yX6_visitorsOf cX6_visitorsOf 4 (some .int) :: ([.fieldLink RX6 118 "PeerCircleModel" "farms" "I", .methodLink RX6 143 yX6_isVisit, .instanceMethod yX6_isVisit, .selects RX6 yX6_isVisit yX6_isVisit, .initialized RX6, .code yX6_isVisit cX6_isVisit 3 (some .boolean), .fieldLink RX6 135 "PeerCircleModel" "isLaid" "Z", .fieldLink RX6 51 "PeerCircleModel" "visits" "[Z"] ++ wsX60)
def wsX6_visitor : List Cond := .code yX6_visitor cX6_visitor 5 (some .int) :: ([.fieldLink RX6 118 "PeerCircleModel" "farms" "I", .methodLink RX6 121 yX6_isFarm, .instanceMethod yX6_isFarm, .selects RX6 yX6_isFarm yX6_isFarm, .initialized RX6, .code yX6_isFarm cX6_isFarm 2 (some .boolean), .methodLink RX6 99 yX6_lies, .static yX6_lies, .code yX6_lies cX6_lies 3 (some .boolean), .methodLink RX6 143 yX6_isVisit, .instanceMethod yX6_isVisit, .selects RX6 yX6_isVisit yX6_isVisit, .code yX6_isVisit cX6_isVisit 3 (some .boolean), .fieldLink RX6 135 "PeerCircleModel" "isLaid" "Z", .fieldLink RX6 51 "PeerCircleModel" "visits" "[Z"] ++ wsX60)
def wsX6_tells : List Cond := .code yX6_tells cX6_tells 6 (some .boolean) :: ([.fieldLink RX6 57 "PeerCircleModel" "broken" "[I", .methodLink RX6 121 yX6_isFarm, .instanceMethod yX6_isFarm, .selects RX6 yX6_isFarm yX6_isFarm, .initialized RX6, .code yX6_isFarm cX6_isFarm 2 (some .boolean), .fieldLink RX6 118 "PeerCircleModel" "farms" "I", .methodLink RX6 99 yX6_lies, .static yX6_lies, .code yX6_lies cX6_lies 3 (some .boolean), .methodLink RX6 143 yX6_isVisit, .instanceMethod yX6_isVisit, .selects RX6 yX6_isVisit yX6_isVisit, .code yX6_isVisit cX6_isVisit 3 (some .boolean), .fieldLink RX6 135 "PeerCircleModel" "isLaid" "Z", .fieldLink RX6 51 "PeerCircleModel" "visits" "[Z"] ++ wsX60)
def wsX6_breachesAt : List Cond := .code yX6_breachesAt cX6_breachesAt 6 (some .int) :: ([.fieldLink RX6 118 "PeerCircleModel" "farms" "I", .fieldLink RX6 57 "PeerCircleModel" "broken" "[I", .methodLink RX6 143 yX6_isVisit, .instanceMethod yX6_isVisit, .selects RX6 yX6_isVisit yX6_isVisit, .initialized RX6, .code yX6_isVisit cX6_isVisit 3 (some .boolean), .fieldLink RX6 135 "PeerCircleModel" "isLaid" "Z", .fieldLink RX6 51 "PeerCircleModel" "visits" "[Z"] ++ wsX60)
def wsX6_weighsAt : List Cond := .code yX6_weighsAt cX6_weighsAt 5 (some .int) :: ([.fieldLink RX6 26 "PeerCircleModel" "weight" "[I", .methodLink RX6 146 yX6_breachesAt, .instanceMethod yX6_breachesAt, .selects RX6 yX6_breachesAt yX6_breachesAt, .initialized RX6, .code yX6_breachesAt cX6_breachesAt 6 (some .int), .fieldLink RX6 118 "PeerCircleModel" "farms" "I", .fieldLink RX6 57 "PeerCircleModel" "broken" "[I", .methodLink RX6 143 yX6_isVisit, .instanceMethod yX6_isVisit, .selects RX6 yX6_isVisit yX6_isVisit, .code yX6_isVisit cX6_isVisit 3 (some .boolean), .fieldLink RX6 135 "PeerCircleModel" "isLaid" "Z", .fieldLink RX6 51 "PeerCircleModel" "visits" "[Z"] ++ wsX60)
def wsX6_breaches : List Cond := .code yX6_breaches cX6_breaches 2 (some .int) :: ([.methodLink RX6 121 yX6_isFarm, .instanceMethod yX6_isFarm, .selects RX6 yX6_isFarm yX6_isFarm, .initialized RX6, .code yX6_isFarm cX6_isFarm 2 (some .boolean), .fieldLink RX6 118 "PeerCircleModel" "farms" "I", .methodLink RX6 99 yX6_lies, .static yX6_lies, .code yX6_lies cX6_lies 3 (some .boolean), .methodLink RX6 146 yX6_breachesAt, .instanceMethod yX6_breachesAt, .selects RX6 yX6_breachesAt yX6_breachesAt, .code yX6_breachesAt cX6_breachesAt 6 (some .int), .fieldLink RX6 57 "PeerCircleModel" "broken" "[I", .methodLink RX6 143 yX6_isVisit, .instanceMethod yX6_isVisit, .selects RX6 yX6_isVisit yX6_isVisit, .code yX6_isVisit cX6_isVisit 3 (some .boolean), .fieldLink RX6 135 "PeerCircleModel" "isLaid" "Z", .fieldLink RX6 51 "PeerCircleModel" "visits" "[Z"] ++ wsX60)
def wsX6_weighs_r1 : List Cond := [Cond.methodLink RX6 121 yX6_isFarm, Cond.instanceMethod yX6_isFarm, Cond.selects RX6 yX6_isFarm yX6_isFarm, Cond.initialized RX6, Cond.code yX6_isFarm cX6_isFarm 2 (some .boolean), Cond.fieldLink RX6 118 "PeerCircleModel" "farms" "I", Cond.methodLink RX6 99 yX6_lies, Cond.static yX6_lies, Cond.code yX6_lies cX6_lies 3 (some .boolean), Cond.methodLink RX6 149 yX6_weighsAt, Cond.instanceMethod yX6_weighsAt, Cond.selects RX6 yX6_weighsAt yX6_weighsAt, Cond.code yX6_weighsAt cX6_weighsAt 5 (some .int), Cond.fieldLink RX6 26 "PeerCircleModel" "weight" "[I", Cond.methodLink RX6 146 yX6_breachesAt, Cond.instanceMethod yX6_breachesAt, Cond.selects RX6 yX6_breachesAt yX6_breachesAt, Cond.code yX6_breachesAt cX6_breachesAt 6 (some .int), Cond.fieldLink RX6 57 "PeerCircleModel" "broken" "[I", Cond.methodLink RX6 143 yX6_isVisit, Cond.instanceMethod yX6_isVisit, Cond.selects RX6 yX6_isVisit yX6_isVisit, Cond.code yX6_isVisit cX6_isVisit 3 (some .boolean), Cond.fieldLink RX6 135 "PeerCircleModel" "isLaid" "Z"]
def wsX6_weighs_r2 : List Cond := [Cond.fieldLink RX6 51 "PeerCircleModel" "visits" "[Z"]
def wsX6_weighs : List Cond := .code yX6_weighs cX6_weighs 2 (some .int) :: ((wsX6_weighs_r1 ++ wsX6_weighs_r2) ++ wsX60)
def wsX6_isVouched : List Cond := .code yX6_isVouched cX6_isVouched 3 (some .boolean) :: ([.fieldLink RX6 57 "PeerCircleModel" "broken" "[I", .methodLink RX6 143 yX6_isVisit, .instanceMethod yX6_isVisit, .selects RX6 yX6_isVisit yX6_isVisit, .initialized RX6, .code yX6_isVisit cX6_isVisit 3 (some .boolean), .fieldLink RX6 135 "PeerCircleModel" "isLaid" "Z", .fieldLink RX6 51 "PeerCircleModel" "visits" "[Z"] ++ wsX60)
def wsX6_vouches : List Cond := .code yX6_vouches cX6_vouches 3 (some .int) :: ([.methodLink RX6 121 yX6_isFarm, .instanceMethod yX6_isFarm, .selects RX6 yX6_isFarm yX6_isFarm, .initialized RX6, .code yX6_isFarm cX6_isFarm 2 (some .boolean), .fieldLink RX6 118 "PeerCircleModel" "farms" "I", .methodLink RX6 99 yX6_lies, .static yX6_lies, .code yX6_lies cX6_lies 3 (some .boolean), .methodLink RX6 152 yX6_isVouched, .instanceMethod yX6_isVouched, .selects RX6 yX6_isVouched yX6_isVouched, .code yX6_isVouched cX6_isVouched 3 (some .boolean), .fieldLink RX6 57 "PeerCircleModel" "broken" "[I", .methodLink RX6 143 yX6_isVisit, .instanceMethod yX6_isVisit, .selects RX6 yX6_isVisit yX6_isVisit, .code yX6_isVisit cX6_isVisit 3 (some .boolean), .fieldLink RX6 135 "PeerCircleModel" "isLaid" "Z", .fieldLink RX6 51 "PeerCircleModel" "visits" "[Z"] ++ wsX60)
def wsX6_trust : List Cond := .code yX6_trust cX6_trust 6 (some .int) :: ([.fieldLink RX6 118 "PeerCircleModel" "farms" "I", .fieldLink RX6 84 "PeerCircleModel" "far" "[I", .methodLink RX6 121 yX6_isFarm, .instanceMethod yX6_isFarm, .selects RX6 yX6_isFarm yX6_isFarm, .initialized RX6, .code yX6_isFarm cX6_isFarm 2 (some .boolean), .methodLink RX6 99 yX6_lies, .static yX6_lies, .code yX6_lies cX6_lies 3 (some .boolean), .methodLink RX6 152 yX6_isVouched, .instanceMethod yX6_isVouched, .selects RX6 yX6_isVouched yX6_isVouched, .code yX6_isVouched cX6_isVouched 3 (some .boolean), .fieldLink RX6 57 "PeerCircleModel" "broken" "[I", .methodLink RX6 143 yX6_isVisit, .instanceMethod yX6_isVisit, .selects RX6 yX6_isVisit yX6_isVisit, .code yX6_isVisit cX6_isVisit 3 (some .boolean), .fieldLink RX6 135 "PeerCircleModel" "isLaid" "Z", .fieldLink RX6 51 "PeerCircleModel" "visits" "[Z"] ++ wsX60)
def wsX6_sell : List Cond := .code yX6_sell cX6_sell 3 (some .boolean) :: ([.fieldLink RX6 29 "PeerCircleModel" "hasSeal" "[Z", .fieldLink RX6 39 "PeerCircleModel" "sold" "[I", .fieldLink RX6 45 "PeerCircleModel" "now" "[I", .methodLink RX6 121 yX6_isFarm, .instanceMethod yX6_isFarm, .selects RX6 yX6_isFarm yX6_isFarm, .initialized RX6, .code yX6_isFarm cX6_isFarm 2 (some .boolean), .fieldLink RX6 118 "PeerCircleModel" "farms" "I", .methodLink RX6 99 yX6_lies, .static yX6_lies, .code yX6_lies cX6_lies 3 (some .boolean)] ++ wsX60)
def wsX6_goesOut : List Cond := .code yX6_goesOut cX6_goesOut 2 none :: ([.fieldLink RX6 29 "PeerCircleModel" "hasSeal" "[Z", .fieldLink RX6 33 "PeerCircleModel" "step" "[I", .fieldLink RX6 36 "PeerCircleModel" "out" "[I", .fieldLink RX6 13 "PeerCircleModel" "rule" "[I"] ++ wsX60)
def wsX6_goesBy_r1 : List Cond := [Cond.fieldLink RX6 42 "PeerCircleModel" "doubtful" "[I", Cond.fieldLink RX6 45 "PeerCircleModel" "now" "[I", Cond.fieldLink RX6 36 "PeerCircleModel" "out" "[I", Cond.fieldLink RX6 13 "PeerCircleModel" "rule" "[I", Cond.fieldLink RX6 33 "PeerCircleModel" "step" "[I", Cond.fieldLink RX6 29 "PeerCircleModel" "hasSeal" "[Z", Cond.methodLink RX6 149 yX6_weighsAt, Cond.instanceMethod yX6_weighsAt, Cond.selects RX6 yX6_weighsAt yX6_weighsAt, Cond.initialized RX6, Cond.code yX6_weighsAt cX6_weighsAt 5 (some .int), Cond.fieldLink RX6 26 "PeerCircleModel" "weight" "[I", Cond.methodLink RX6 146 yX6_breachesAt, Cond.instanceMethod yX6_breachesAt, Cond.selects RX6 yX6_breachesAt yX6_breachesAt, Cond.code yX6_breachesAt cX6_breachesAt 6 (some .int), Cond.fieldLink RX6 118 "PeerCircleModel" "farms" "I", Cond.fieldLink RX6 57 "PeerCircleModel" "broken" "[I", Cond.methodLink RX6 143 yX6_isVisit, Cond.instanceMethod yX6_isVisit, Cond.selects RX6 yX6_isVisit yX6_isVisit, Cond.code yX6_isVisit cX6_isVisit 3 (some .boolean), Cond.fieldLink RX6 135 "PeerCircleModel" "isLaid" "Z", Cond.fieldLink RX6 51 "PeerCircleModel" "visits" "[Z"]
def wsX6_goesBy_r2 : List Cond := [Cond.methodLink RX6 155 yX6_goesOut, Cond.instanceMethod yX6_goesOut, Cond.selects RX6 yX6_goesOut yX6_goesOut, Cond.code yX6_goesOut cX6_goesOut 2 none, Cond.methodLink RX6 158 yX6_visitorsOf, Cond.instanceMethod yX6_visitorsOf, Cond.selects RX6 yX6_visitorsOf yX6_visitorsOf, Cond.code yX6_visitorsOf cX6_visitorsOf 4 (some .int)]
def wsX6_goesBy : List Cond := .code yX6_goesBy cX6_goesBy 3 none :: ((wsX6_goesBy_r1 ++ wsX6_goesBy_r2) ++ wsX60)
def wsX6_year_r1 : List Cond := [Cond.fieldLink RX6 135 "PeerCircleModel" "isLaid" "Z", Cond.fieldLink RX6 161 "PeerCircleModel" "year" "I", Cond.fieldLink RX6 118 "PeerCircleModel" "farms" "I", Cond.fieldLink RX6 45 "PeerCircleModel" "now" "[I", Cond.fieldLink RX6 54 "PeerCircleModel" "had" "[Z", Cond.fieldLink RX6 51 "PeerCircleModel" "visits" "[Z", Cond.methodLink RX6 164 yX6_goesBy, Cond.instanceMethod yX6_goesBy, Cond.selects RX6 yX6_goesBy yX6_goesBy, Cond.initialized RX6, Cond.code yX6_goesBy cX6_goesBy 3 none, Cond.fieldLink RX6 42 "PeerCircleModel" "doubtful" "[I", Cond.fieldLink RX6 36 "PeerCircleModel" "out" "[I", Cond.fieldLink RX6 13 "PeerCircleModel" "rule" "[I", Cond.fieldLink RX6 33 "PeerCircleModel" "step" "[I", Cond.fieldLink RX6 29 "PeerCircleModel" "hasSeal" "[Z", Cond.methodLink RX6 149 yX6_weighsAt, Cond.instanceMethod yX6_weighsAt, Cond.selects RX6 yX6_weighsAt yX6_weighsAt, Cond.code yX6_weighsAt cX6_weighsAt 5 (some .int), Cond.fieldLink RX6 26 "PeerCircleModel" "weight" "[I", Cond.methodLink RX6 146 yX6_breachesAt, Cond.instanceMethod yX6_breachesAt, Cond.selects RX6 yX6_breachesAt yX6_breachesAt]
def wsX6_year_r2 : List Cond := [Cond.code yX6_breachesAt cX6_breachesAt 6 (some .int), Cond.fieldLink RX6 57 "PeerCircleModel" "broken" "[I", Cond.methodLink RX6 143 yX6_isVisit, Cond.instanceMethod yX6_isVisit, Cond.selects RX6 yX6_isVisit yX6_isVisit, Cond.code yX6_isVisit cX6_isVisit 3 (some .boolean), Cond.methodLink RX6 155 yX6_goesOut, Cond.instanceMethod yX6_goesOut, Cond.selects RX6 yX6_goesOut yX6_goesOut, Cond.code yX6_goesOut cX6_goesOut 2 none, Cond.methodLink RX6 158 yX6_visitorsOf, Cond.instanceMethod yX6_visitorsOf, Cond.selects RX6 yX6_visitorsOf yX6_visitorsOf, Cond.code yX6_visitorsOf cX6_visitorsOf 4 (some .int)]
def wsX6_year : List Cond := .code yX6_year cX6_year 2 (some .int) :: ((wsX6_year_r1 ++ wsX6_year_r2) ++ wsX60)
def wsX6_sealed : List Cond := .code yX6_sealed cX6_sealed 5 (some .int) :: ([.fieldLink RX6 118 "PeerCircleModel" "farms" "I", .fieldLink RX6 23 "PeerCircleModel" "group" "[I", .fieldLink RX6 29 "PeerCircleModel" "hasSeal" "[Z", .fieldLink RX6 13 "PeerCircleModel" "rule" "[I", .methodLink RX6 99 yX6_lies, .static yX6_lies, .initialized RX6, .code yX6_lies cX6_lies 3 (some .boolean)] ++ wsX60)
def wsX6_look_r1 : List Cond := [Cond.fieldLink RX6 20 "PeerCircleModel" "family" "[I", Cond.fieldLink RX6 23 "PeerCircleModel" "group" "[I", Cond.fieldLink RX6 29 "PeerCircleModel" "hasSeal" "[Z", Cond.fieldLink RX6 33 "PeerCircleModel" "step" "[I", Cond.fieldLink RX6 36 "PeerCircleModel" "out" "[I", Cond.fieldLink RX6 39 "PeerCircleModel" "sold" "[I", Cond.fieldLink RX6 42 "PeerCircleModel" "doubtful" "[I", Cond.fieldLink RX6 45 "PeerCircleModel" "now" "[I", Cond.fieldLink RX6 118 "PeerCircleModel" "farms" "I", Cond.methodLink RX6 121 yX6_isFarm, Cond.instanceMethod yX6_isFarm, Cond.selects RX6 yX6_isFarm yX6_isFarm, Cond.initialized RX6, Cond.code yX6_isFarm cX6_isFarm 2 (some .boolean), Cond.methodLink RX6 99 yX6_lies, Cond.static yX6_lies, Cond.code yX6_lies cX6_lies 3 (some .boolean), Cond.methodLink RX6 158 yX6_visitorsOf, Cond.instanceMethod yX6_visitorsOf, Cond.selects RX6 yX6_visitorsOf yX6_visitorsOf, Cond.code yX6_visitorsOf cX6_visitorsOf 4 (some .int), Cond.methodLink RX6 143 yX6_isVisit, Cond.instanceMethod yX6_isVisit, Cond.selects RX6 yX6_isVisit yX6_isVisit]
def wsX6_look_r2 : List Cond := [Cond.code yX6_isVisit cX6_isVisit 3 (some .boolean), Cond.fieldLink RX6 135 "PeerCircleModel" "isLaid" "Z", Cond.fieldLink RX6 51 "PeerCircleModel" "visits" "[Z"]
def wsX6_look : List Cond := .code yX6_look cX6_look 5 (some .int) :: ((wsX6_look_r1 ++ wsX6_look_r2) ++ wsX60)
def wsX6_count : List Cond := .code yX6_count cX6_count 4 (some .int) :: ([.fieldLink RX6 13 "PeerCircleModel" "rule" "[I", .fieldLink RX6 26 "PeerCircleModel" "weight" "[I", .fieldLink RX6 118 "PeerCircleModel" "farms" "I", .fieldLink RX6 161 "PeerCircleModel" "year" "I", .fieldLink RX6 135 "PeerCircleModel" "isLaid" "Z", .fieldLink RX6 29 "PeerCircleModel" "hasSeal" "[Z", .fieldLink RX6 36 "PeerCircleModel" "out" "[I", .fieldLink RX6 91 "PeerCircleModel" "taped" "I", .methodLink RX6 99 yX6_lies, .static yX6_lies, .initialized RX6, .code yX6_lies cX6_lies 3 (some .boolean), .methodLink RX6 158 yX6_visitorsOf, .instanceMethod yX6_visitorsOf, .selects RX6 yX6_visitorsOf yX6_visitorsOf, .code yX6_visitorsOf cX6_visitorsOf 4 (some .int), .methodLink RX6 143 yX6_isVisit, .instanceMethod yX6_isVisit, .selects RX6 yX6_isVisit yX6_isVisit, .code yX6_isVisit cX6_isVisit 3 (some .boolean), .fieldLink RX6 51 "PeerCircleModel" "visits" "[Z"] ++ wsX60)
def wsJ9_max_7cf53 : List Cond := .code yJ9_max_7cf53 cJ9_max_7cf53 2 (some .int) :: ([])
def wsJ9_min_7cf53 : List Cond := .code yJ9_min_7cf53 cJ9_min_7cf53 2 (some .int) :: ([])
end
section
theorem dX0_init_0 : decode cX0_init 0 = .ok (.aload_n 0, 1) := by decide +kernel
theorem dX0_init_1 : decode cX0_init 1 = .ok (.invokespecial 1, 3) := by decide +kernel
theorem dX0_init_4 : decode cX0_init 4 = .ok (.aload_n 0, 1) := by decide +kernel
theorem dX0_init_5 : decode cX0_init 5 = .ok (.iconst 0, 1) := by decide +kernel
theorem dX0_init_6 : decode cX0_init 6 = .ok (.putfield 7, 3) := by decide +kernel
theorem dX0_init_9 : decode cX0_init 9 = .ok (.aload_n 0, 1) := by decide +kernel
theorem dX0_init_10 : decode cX0_init 10 = .ok (.iconst 0, 1) := by decide +kernel
theorem dX0_init_11 : decode cX0_init 11 = .ok (.putfield 13, 3) := by decide +kernel
theorem dX0_init_14 : decode cX0_init 14 = .ok (.aload_n 0, 1) := by decide +kernel
theorem dX0_init_15 : decode cX0_init 15 = .ok (.iconst 0, 1) := by decide +kernel
theorem dX0_init_16 : decode cX0_init 16 = .ok (.putfield 17, 3) := by decide +kernel
theorem dX0_init_19 : decode cX0_init 19 = .ok (.aload_n 0, 1) := by decide +kernel
theorem dX0_init_20 : decode cX0_init 20 = .ok (.iconst 0, 1) := by decide +kernel
theorem dX0_init_21 : decode cX0_init 21 = .ok (.putfield 20, 3) := by decide +kernel
theorem dX0_init_24 : decode cX0_init 24 = .ok (.aload_n 0, 1) := by decide +kernel
theorem dX0_init_25 : decode cX0_init 25 = .ok (.iconst 0, 1) := by decide +kernel
theorem dX0_init_26 : decode cX0_init 26 = .ok (.putfield 23, 3) := by decide +kernel
theorem dX0_init_29 : decode cX0_init 29 = .ok (.aload_n 0, 1) := by decide +kernel
theorem dX0_init_30 : decode cX0_init 30 = .ok (.iconst 0, 1) := by decide +kernel
theorem dX0_init_31 : decode cX0_init 31 = .ok (.putfield 26, 3) := by decide +kernel
theorem dX0_init_34 : decode cX0_init 34 = .ok (.aload_n 0, 1) := by decide +kernel
theorem dX0_init_35 : decode cX0_init 35 = .ok (.iload_n 1, 1) := by decide +kernel
theorem dX0_init_36 : decode cX0_init 36 = .ok (.putfield 29, 3) := by decide +kernel
theorem dX0_init_39 : decode cX0_init 39 = .ok (.aload_n 0, 1) := by decide +kernel
theorem dX0_init_40 : decode cX0_init 40 = .ok (.iload_n 2, 1) := by decide +kernel
theorem dX0_init_41 : decode cX0_init 41 = .ok (.putfield 32, 3) := by decide +kernel
theorem dX0_init_44 : decode cX0_init 44 = .ok (.return_, 1) := by decide +kernel
theorem dX0_isOut_0 : decode cX0_isOut 0 = .ok (.aload_n 0, 1) := by decide +kernel
theorem dX0_isOut_1 : decode cX0_isOut 1 = .ok (.getfield 17, 3) := by decide +kernel
theorem dX0_isOut_4 : decode cX0_isOut 4 = .ok (.ifCond .le 7, 3) := by decide +kernel
theorem dX0_isOut_7 : decode cX0_isOut 7 = .ok (.iconst 1, 1) := by decide +kernel
theorem dX0_isOut_8 : decode cX0_isOut 8 = .ok (.goto 4, 3) := by decide +kernel
theorem dX0_isOut_11 : decode cX0_isOut 11 = .ok (.iconst 0, 1) := by decide +kernel
theorem dX0_isOut_12 : decode cX0_isOut 12 = .ok (.ireturn, 1) := by decide +kernel
theorem dX0_sellBaskets_0 : decode cX0_sellBaskets 0 = .ok (.aload_n 0, 1) := by decide +kernel
theorem dX0_sellBaskets_1 : decode cX0_sellBaskets 1 = .ok (.dup, 1) := by decide +kernel
theorem dX0_sellBaskets_2 : decode cX0_sellBaskets 2 = .ok (.getfield 20, 3) := by decide +kernel
theorem dX0_sellBaskets_5 : decode cX0_sellBaskets 5 = .ok (.iload_n 1, 1) := by decide +kernel
theorem dX0_sellBaskets_6 : decode cX0_sellBaskets 6 = .ok (.iadd, 1) := by decide +kernel
theorem dX0_sellBaskets_7 : decode cX0_sellBaskets 7 = .ok (.putfield 20, 3) := by decide +kernel
theorem dX0_sellBaskets_10 : decode cX0_sellBaskets 10 = .ok (.aload_n 0, 1) := by decide +kernel
theorem dX0_sellBaskets_11 : decode cX0_sellBaskets 11 = .ok (.dup, 1) := by decide +kernel
theorem dX0_sellBaskets_12 : decode cX0_sellBaskets 12 = .ok (.getfield 23, 3) := by decide +kernel
theorem dX0_sellBaskets_15 : decode cX0_sellBaskets 15 = .ok (.iload_n 1, 1) := by decide +kernel
theorem dX0_sellBaskets_16 : decode cX0_sellBaskets 16 = .ok (.iadd, 1) := by decide +kernel
theorem dX0_sellBaskets_17 : decode cX0_sellBaskets 17 = .ok (.putfield 23, 3) := by decide +kernel
theorem dX0_sellBaskets_20 : decode cX0_sellBaskets 20 = .ok (.return_, 1) := by decide +kernel
theorem dX0_countDoubtful_0 : decode cX0_countDoubtful 0 = .ok (.iload_n 1, 1) := by decide +kernel
theorem dX0_countDoubtful_1 : decode cX0_countDoubtful 1 = .ok (.ifCond .eq 16, 3) := by decide +kernel
theorem dX0_countDoubtful_4 : decode cX0_countDoubtful 4 = .ok (.aload_n 0, 1) := by decide +kernel
theorem dX0_countDoubtful_5 : decode cX0_countDoubtful 5 = .ok (.dup, 1) := by decide +kernel
theorem dX0_countDoubtful_6 : decode cX0_countDoubtful 6 = .ok (.getfield 26, 3) := by decide +kernel
theorem dX0_countDoubtful_9 : decode cX0_countDoubtful 9 = .ok (.aload_n 0, 1) := by decide +kernel
theorem dX0_countDoubtful_10 : decode cX0_countDoubtful 10 = .ok (.getfield 23, 3) := by decide +kernel
theorem dX0_countDoubtful_13 : decode cX0_countDoubtful 13 = .ok (.iadd, 1) := by decide +kernel
theorem dX0_countDoubtful_14 : decode cX0_countDoubtful 14 = .ok (.putfield 26, 3) := by decide +kernel
theorem dX0_countDoubtful_17 : decode cX0_countDoubtful 17 = .ok (.aload_n 0, 1) := by decide +kernel
theorem dX0_countDoubtful_18 : decode cX0_countDoubtful 18 = .ok (.iconst 0, 1) := by decide +kernel
theorem dX0_countDoubtful_19 : decode cX0_countDoubtful 19 = .ok (.putfield 23, 3) := by decide +kernel
theorem dX0_countDoubtful_22 : decode cX0_countDoubtful 22 = .ok (.return_, 1) := by decide +kernel
set_option maxRecDepth 20000 in
theorem ggX0_goOn_X0_isOut : GoodIn wsX0_goOn wsX0_isOut := goodIn_r _ [8, 1, 22, 23, 24, 25, 26, 27, 28, 29] (by decide +kernel) (by decide +kernel)
set_option maxRecDepth 20000 in
theorem gX0_goOn_X0_isOut : GoodIn wsX0_goOn (wsV RX0 35 RX0 yX0_isOut wsX0_isOut) := goodIn_app (goodIn_of _ (by decide +kernel)) ggX0_goOn_X0_isOut
set_option maxRecDepth 20000 in
theorem ggX0_goOn_X0_changeStep : GoodIn wsX0_goOn wsX0_changeStep := goodIn_r _ [12, 2, 13, 14, 15, 16, 17, 18, 19, 20, 21, 22, 23, 24, 25, 26, 27, 28, 29, 30, 31, 32] (by decide +kernel) (by decide +kernel)
set_option maxRecDepth 20000 in
theorem gX0_goOn_X0_changeStep : GoodIn wsX0_goOn (wsV RX0 39 RX0 yX0_changeStep wsX0_changeStep) := goodIn_app (goodIn_of _ (by decide +kernel)) ggX0_goOn_X0_changeStep
set_option maxRecDepth 20000 in
theorem ggX0_goOn_X2_number : GoodIn wsX0_goOn wsX2_number := goodIn_r _ [17, 18, 19, 20, 21, 30, 31, 32] (by decide +kernel) (by decide +kernel)
set_option maxRecDepth 20000 in
theorem gX0_goOn_X2_number : GoodIn wsX0_goOn (wsV RX0 45 RX2 yX2_number wsX2_number) := goodIn_app (goodIn_of _ (by decide +kernel)) ggX0_goOn_X2_number
theorem dX0_goOn_0 : decode cX0_goOn 0 = .ok (.aload_n 0, 1) := by decide +kernel
theorem dX0_goOn_1 : decode cX0_goOn 1 = .ok (.invokevirtual 35, 3) := by decide +kernel
theorem dX0_goOn_4 : decode cX0_goOn 4 = .ok (.ifCond .eq 14, 3) := by decide +kernel
theorem dX0_goOn_7 : decode cX0_goOn 7 = .ok (.aload_n 0, 1) := by decide +kernel
theorem dX0_goOn_8 : decode cX0_goOn 8 = .ok (.dup, 1) := by decide +kernel
theorem dX0_goOn_9 : decode cX0_goOn 9 = .ok (.getfield 17, 3) := by decide +kernel
theorem dX0_goOn_12 : decode cX0_goOn 12 = .ok (.iconst 1, 1) := by decide +kernel
theorem dX0_goOn_13 : decode cX0_goOn 13 = .ok (.isub, 1) := by decide +kernel
theorem dX0_goOn_14 : decode cX0_goOn 14 = .ok (.putfield 17, 3) := by decide +kernel
theorem dX0_goOn_17 : decode cX0_goOn 17 = .ok (.return_, 1) := by decide +kernel
theorem dX0_goOn_18 : decode cX0_goOn 18 = .ok (.aload_n 0, 1) := by decide +kernel
theorem dX0_goOn_19 : decode cX0_goOn 19 = .ok (.iload_n 1, 1) := by decide +kernel
theorem dX0_goOn_20 : decode cX0_goOn 20 = .ok (.aload_n 3, 1) := by decide +kernel
theorem dX0_goOn_21 : decode cX0_goOn 21 = .ok (.invokevirtual 39, 3) := by decide +kernel
theorem dX0_goOn_24 : decode cX0_goOn 24 = .ok (.iload_n 1, 1) := by decide +kernel
theorem dX0_goOn_25 : decode cX0_goOn 25 = .ok (.aload_n 3, 1) := by decide +kernel
theorem dX0_goOn_26 : decode cX0_goOn 26 = .ok (.iconst 3, 1) := by decide +kernel
theorem dX0_goOn_27 : decode cX0_goOn 27 = .ok (.invokevirtual 45, 3) := by decide +kernel
theorem dX0_goOn_30 : decode cX0_goOn 30 = .ok (.if_icmp .ge 11, 3) := by decide +kernel
theorem dX0_goOn_33 : decode cX0_goOn 33 = .ok (.aload_n 0, 1) := by decide +kernel
theorem dX0_goOn_34 : decode cX0_goOn 34 = .ok (.getfield 13, 3) := by decide +kernel
theorem dX0_goOn_37 : decode cX0_goOn 37 = .ok (.iconst 3, 1) := by decide +kernel
theorem dX0_goOn_38 : decode cX0_goOn 38 = .ok (.if_icmp .lt 25, 3) := by decide +kernel
theorem dX0_goOn_41 : decode cX0_goOn 41 = .ok (.aload_n 0, 1) := by decide +kernel
theorem dX0_goOn_42 : decode cX0_goOn 42 = .ok (.iconst 0, 1) := by decide +kernel
theorem dX0_goOn_43 : decode cX0_goOn 43 = .ok (.putfield 7, 3) := by decide +kernel
theorem dX0_goOn_46 : decode cX0_goOn 46 = .ok (.aload_n 0, 1) := by decide +kernel
theorem dX0_goOn_47 : decode cX0_goOn 47 = .ok (.iconst 0, 1) := by decide +kernel
theorem dX0_goOn_48 : decode cX0_goOn 48 = .ok (.putfield 13, 3) := by decide +kernel
theorem dX0_goOn_51 : decode cX0_goOn 51 = .ok (.aload_n 0, 1) := by decide +kernel
theorem dX0_goOn_52 : decode cX0_goOn 52 = .ok (.aload_n 3, 1) := by decide +kernel
theorem dX0_goOn_53 : decode cX0_goOn 53 = .ok (.iconst 4, 1) := by decide +kernel
theorem dX0_goOn_54 : decode cX0_goOn 54 = .ok (.invokevirtual 45, 3) := by decide +kernel
theorem dX0_goOn_57 : decode cX0_goOn 57 = .ok (.putfield 17, 3) := by decide +kernel
theorem dX0_goOn_60 : decode cX0_goOn 60 = .ok (.goto 17, 3) := by decide +kernel
theorem dX0_goOn_63 : decode cX0_goOn 63 = .ok (.aload_n 0, 1) := by decide +kernel
theorem dX0_goOn_64 : decode cX0_goOn 64 = .ok (.iload_n 2, 1) := by decide +kernel
theorem dX0_goOn_65 : decode cX0_goOn 65 = .ok (.iconst 2, 1) := by decide +kernel
theorem dX0_goOn_66 : decode cX0_goOn 66 = .ok (.if_icmp .lt 7, 3) := by decide +kernel
theorem dX0_goOn_69 : decode cX0_goOn 69 = .ok (.iconst 1, 1) := by decide +kernel
theorem dX0_goOn_70 : decode cX0_goOn 70 = .ok (.goto 4, 3) := by decide +kernel
theorem dX0_goOn_73 : decode cX0_goOn 73 = .ok (.iconst 0, 1) := by decide +kernel
theorem dX0_goOn_74 : decode cX0_goOn 74 = .ok (.putfield 7, 3) := by decide +kernel
theorem dX0_goOn_77 : decode cX0_goOn 77 = .ok (.return_, 1) := by decide +kernel
set_option maxRecDepth 20000 in
theorem ggX0_changeStep_X2_number : GoodIn wsX0_changeStep wsX2_number := goodIn_r _ [6, 7, 8, 9, 10, 19, 20, 21] (by decide +kernel) (by decide +kernel)
set_option maxRecDepth 20000 in
theorem gX0_changeStep_X2_number : GoodIn wsX0_changeStep (wsV RX0 45 RX2 yX2_number wsX2_number) := goodIn_app (goodIn_of _ (by decide +kernel)) ggX0_changeStep_X2_number
theorem dX0_changeStep_0 : decode cX0_changeStep 0 = .ok (.iload_n 1, 1) := by decide +kernel
theorem dX0_changeStep_1 : decode cX0_changeStep 1 = .ok (.aload_n 2, 1) := by decide +kernel
theorem dX0_changeStep_2 : decode cX0_changeStep 2 = .ok (.iconst 2, 1) := by decide +kernel
theorem dX0_changeStep_3 : decode cX0_changeStep 3 = .ok (.invokevirtual 45, 3) := by decide +kernel
theorem dX0_changeStep_6 : decode cX0_changeStep 6 = .ok (.if_icmp .lt 16, 3) := by decide +kernel
theorem dX0_changeStep_9 : decode cX0_changeStep 9 = .ok (.aload_n 0, 1) := by decide +kernel
theorem dX0_changeStep_10 : decode cX0_changeStep 10 = .ok (.dup, 1) := by decide +kernel
theorem dX0_changeStep_11 : decode cX0_changeStep 11 = .ok (.getfield 13, 3) := by decide +kernel
theorem dX0_changeStep_14 : decode cX0_changeStep 14 = .ok (.iconst 1, 1) := by decide +kernel
theorem dX0_changeStep_15 : decode cX0_changeStep 15 = .ok (.iadd, 1) := by decide +kernel
theorem dX0_changeStep_16 : decode cX0_changeStep 16 = .ok (.putfield 13, 3) := by decide +kernel
theorem dX0_changeStep_19 : decode cX0_changeStep 19 = .ok (.goto 20, 3) := by decide +kernel
theorem dX0_changeStep_22 : decode cX0_changeStep 22 = .ok (.aload_n 0, 1) := by decide +kernel
theorem dX0_changeStep_23 : decode cX0_changeStep 23 = .ok (.getfield 13, 3) := by decide +kernel
theorem dX0_changeStep_26 : decode cX0_changeStep 26 = .ok (.ifCond .le 13, 3) := by decide +kernel
theorem dX0_changeStep_29 : decode cX0_changeStep 29 = .ok (.aload_n 0, 1) := by decide +kernel
theorem dX0_changeStep_30 : decode cX0_changeStep 30 = .ok (.dup, 1) := by decide +kernel
theorem dX0_changeStep_31 : decode cX0_changeStep 31 = .ok (.getfield 13, 3) := by decide +kernel
theorem dX0_changeStep_34 : decode cX0_changeStep 34 = .ok (.iconst 1, 1) := by decide +kernel
theorem dX0_changeStep_35 : decode cX0_changeStep 35 = .ok (.isub, 1) := by decide +kernel
theorem dX0_changeStep_36 : decode cX0_changeStep 36 = .ok (.putfield 13, 3) := by decide +kernel
theorem dX0_changeStep_39 : decode cX0_changeStep 39 = .ok (.return_, 1) := by decide +kernel
theorem dX1_init_0 : decode cX1_init 0 = .ok (.aload_n 0, 1) := by decide +kernel
theorem dX1_init_1 : decode cX1_init 1 = .ok (.invokespecial 5, 3) := by decide +kernel
theorem dX1_init_4 : decode cX1_init 4 = .ok (.aload_n 0, 1) := by decide +kernel
theorem dX1_init_5 : decode cX1_init 5 = .ok (.bipush 22, 2) := by decide +kernel
theorem dX1_init_7 : decode cX1_init 7 = .ok (.newarray .int, 2) := by decide +kernel
theorem dX1_init_9 : decode cX1_init 9 = .ok (.putfield 11, 3) := by decide +kernel
theorem dX1_init_12 : decode cX1_init 12 = .ok (.aload_n 0, 1) := by decide +kernel
theorem dX1_init_13 : decode cX1_init 13 = .ok (.bipush 22, 2) := by decide +kernel
theorem dX1_init_15 : decode cX1_init 15 = .ok (.newarray .int, 2) := by decide +kernel
theorem dX1_init_17 : decode cX1_init 17 = .ok (.putfield 15, 3) := by decide +kernel
theorem dX1_init_20 : decode cX1_init 20 = .ok (.aload_n 0, 1) := by decide +kernel
theorem dX1_init_21 : decode cX1_init 21 = .ok (.bipush 22, 2) := by decide +kernel
theorem dX1_init_23 : decode cX1_init 23 = .ok (.newarray .int, 2) := by decide +kernel
theorem dX1_init_25 : decode cX1_init 25 = .ok (.putfield 18, 3) := by decide +kernel
theorem dX1_init_28 : decode cX1_init 28 = .ok (.aload_n 0, 1) := by decide +kernel
theorem dX1_init_29 : decode cX1_init 29 = .ok (.bipush 10, 2) := by decide +kernel
theorem dX1_init_31 : decode cX1_init 31 = .ok (.newarray .int, 2) := by decide +kernel
theorem dX1_init_33 : decode cX1_init 33 = .ok (.putfield 21, 3) := by decide +kernel
theorem dX1_init_36 : decode cX1_init 36 = .ok (.aload_n 0, 1) := by decide +kernel
theorem dX1_init_37 : decode cX1_init 37 = .ok (.bipush 10, 2) := by decide +kernel
theorem dX1_init_39 : decode cX1_init 39 = .ok (.newarray .int, 2) := by decide +kernel
theorem dX1_init_41 : decode cX1_init 41 = .ok (.putfield 24, 3) := by decide +kernel
theorem dX1_init_44 : decode cX1_init 44 = .ok (.aload_n 0, 1) := by decide +kernel
theorem dX1_init_45 : decode cX1_init 45 = .ok (.iconst 0, 1) := by decide +kernel
theorem dX1_init_46 : decode cX1_init 46 = .ok (.putfield 27, 3) := by decide +kernel
theorem dX1_init_49 : decode cX1_init 49 = .ok (.aload_n 0, 1) := by decide +kernel
theorem dX1_init_50 : decode cX1_init 50 = .ok (.iconst 0, 1) := by decide +kernel
theorem dX1_init_51 : decode cX1_init 51 = .ok (.putfield 31, 3) := by decide +kernel
theorem dX1_init_54 : decode cX1_init 54 = .ok (.return_, 1) := by decide +kernel
theorem dX1_visitorsOf_0 : decode cX1_visitorsOf 0 = .ok (.aload_n 0, 1) := by decide +kernel
theorem dX1_visitorsOf_1 : decode cX1_visitorsOf 1 = .ok (.getfield 21, 3) := by decide +kernel
theorem dX1_visitorsOf_4 : decode cX1_visitorsOf 4 = .ok (.iload_n 1, 1) := by decide +kernel
theorem dX1_visitorsOf_5 : decode cX1_visitorsOf 5 = .ok (.iaload, 1) := by decide +kernel
theorem dX1_visitorsOf_6 : decode cX1_visitorsOf 6 = .ok (.ireturn, 1) := by decide +kernel
set_option maxRecDepth 20000 in
theorem ggX1_begin_J7_fill_53178 : GoodIn wsX1_begin wsJ7_fill_53178 := goodIn_r _ [9] (by decide +kernel) (by decide +kernel)
set_option maxRecDepth 20000 in
theorem gX1_begin_J7_fill_53178 : GoodIn wsX1_begin (va_wsS RX1 34 yJ7_fill_53178 wsJ7_fill_53178) := goodIn_app (goodIn_of _ (by decide +kernel)) ggX1_begin_J7_fill_53178
theorem dX1_begin_0 : decode cX1_begin 0 = .ok (.aload_n 0, 1) := by decide +kernel
theorem dX1_begin_1 : decode cX1_begin 1 = .ok (.iload_n 1, 1) := by decide +kernel
theorem dX1_begin_2 : decode cX1_begin 2 = .ok (.putfield 27, 3) := by decide +kernel
theorem dX1_begin_5 : decode cX1_begin 5 = .ok (.aload_n 0, 1) := by decide +kernel
theorem dX1_begin_6 : decode cX1_begin 6 = .ok (.iload_n 2, 1) := by decide +kernel
theorem dX1_begin_7 : decode cX1_begin 7 = .ok (.putfield 31, 3) := by decide +kernel
theorem dX1_begin_10 : decode cX1_begin 10 = .ok (.aload_n 0, 1) := by decide +kernel
theorem dX1_begin_11 : decode cX1_begin 11 = .ok (.getfield 11, 3) := by decide +kernel
theorem dX1_begin_14 : decode cX1_begin 14 = .ok (.iconst 0, 1) := by decide +kernel
theorem dX1_begin_15 : decode cX1_begin 15 = .ok (.invokestatic 34, 3) := by decide +kernel
theorem dX1_begin_18 : decode cX1_begin 18 = .ok (.aload_n 0, 1) := by decide +kernel
theorem dX1_begin_19 : decode cX1_begin 19 = .ok (.getfield 21, 3) := by decide +kernel
theorem dX1_begin_22 : decode cX1_begin 22 = .ok (.iconst 0, 1) := by decide +kernel
theorem dX1_begin_23 : decode cX1_begin 23 = .ok (.invokestatic 34, 3) := by decide +kernel
theorem dX1_begin_26 : decode cX1_begin 26 = .ok (.aload_n 0, 1) := by decide +kernel
theorem dX1_begin_27 : decode cX1_begin 27 = .ok (.getfield 24, 3) := by decide +kernel
theorem dX1_begin_30 : decode cX1_begin 30 = .ok (.iconst 0, 1) := by decide +kernel
theorem dX1_begin_31 : decode cX1_begin 31 = .ok (.invokestatic 34, 3) := by decide +kernel
theorem dX1_begin_34 : decode cX1_begin 34 = .ok (.return_, 1) := by decide +kernel
set_option maxRecDepth 20000 in
theorem ggX1_allow_X1_placeVisited : GoodIn wsX1_allow wsX1_placeVisited := goodIn_r _ [4] (by decide +kernel) (by decide +kernel)
set_option maxRecDepth 20000 in
theorem gX1_allow_X1_placeVisited : GoodIn wsX1_allow (va_wsS RX1 40 yX1_placeVisited wsX1_placeVisited) := goodIn_app (goodIn_of _ (by decide +kernel)) ggX1_allow_X1_placeVisited
set_option maxRecDepth 20000 in
theorem ggX1_allow_X1_setWay : GoodIn wsX1_allow wsX1_setWay := goodIn_r _ [8, 9, 25, 26, 27, 28, 29, 30, 31] (by decide +kernel) (by decide +kernel)
set_option maxRecDepth 20000 in
theorem gX1_allow_X1_setWay : GoodIn wsX1_allow (wsV RX1 44 RX1 yX1_setWay wsX1_setWay) := goodIn_app (goodIn_of _ (by decide +kernel)) ggX1_allow_X1_setWay
set_option maxRecDepth 20000 in
theorem ggX1_allow_X1_openByLimits : GoodIn wsX1_allow wsX1_openByLimits := goodIn_r _ [13, 14, 15, 16, 17, 1, 2, 3, 4, 18, 19, 20, 21, 22, 23, 24, 5, 6, 7, 8, 9, 25, 26, 27, 28, 29, 30, 31] (by decide +kernel) (by decide +kernel)
set_option maxRecDepth 20000 in
theorem gX1_allow_X1_openByLimits : GoodIn wsX1_allow (wsV RX1 48 RX1 yX1_openByLimits wsX1_openByLimits) := goodIn_app (goodIn_of _ (by decide +kernel)) ggX1_allow_X1_openByLimits
theorem dX1_allow_0 : decode cX1_allow 0 = .ok (.aload_n 0, 1) := by decide +kernel
theorem dX1_allow_1 : decode cX1_allow 1 = .ok (.iload_n 1, 1) := by decide +kernel
theorem dX1_allow_2 : decode cX1_allow 2 = .ok (.iload_n 2, 1) := by decide +kernel
theorem dX1_allow_3 : decode cX1_allow 3 = .ok (.invokestatic 40, 3) := by decide +kernel
theorem dX1_allow_6 : decode cX1_allow 6 = .ok (.iconst 1, 1) := by decide +kernel
theorem dX1_allow_7 : decode cX1_allow 7 = .ok (.invokevirtual 44, 3) := by decide +kernel
theorem dX1_allow_10 : decode cX1_allow 10 = .ok (.aload_n 0, 1) := by decide +kernel
theorem dX1_allow_11 : decode cX1_allow 11 = .ok (.iload_n 1, 1) := by decide +kernel
theorem dX1_allow_12 : decode cX1_allow 12 = .ok (.iload_n 2, 1) := by decide +kernel
theorem dX1_allow_13 : decode cX1_allow 13 = .ok (.invokevirtual 48, 3) := by decide +kernel
theorem dX1_allow_16 : decode cX1_allow 16 = .ok (.return_, 1) := by decide +kernel
set_option maxRecDepth 20000 in
theorem ggX1_planMost_X1_findPath : GoodIn wsX1_planMost wsX1_findPath := goodIn_r _ [5, 6, 7, 8, 9, 10, 4, 11, 12, 13, 14, 15, 16, 17, 18, 19, 20, 21, 55, 56, 57, 58, 59, 60, 61] (by decide +kernel) (by decide +kernel)
set_option maxRecDepth 20000 in
theorem gX1_planMost_X1_findPath : GoodIn wsX1_planMost (wsV RX1 52 RX1 yX1_findPath wsX1_findPath) := goodIn_app (goodIn_of _ (by decide +kernel)) ggX1_planMost_X1_findPath
set_option maxRecDepth 20000 in
theorem ggX1_planMost_X1_followPath : GoodIn wsX1_planMost wsX1_followPath := goodIn_r _ [25, 8, 26, 27, 28, 4, 29, 30, 20, 31, 32, 33, 34, 35, 36, 37, 38, 39, 40, 41, 42, 43, 44, 7, 45, 46, 47, 48, 49, 50, 12, 13, 14, 15, 16, 17, 18, 51, 52, 53, 54, 55, 56, 57, 58, 59, 60, 61] (by decide +kernel) (by decide +kernel)
set_option maxRecDepth 20000 in
theorem gX1_planMost_X1_followPath : GoodIn wsX1_planMost (wsV RX1 56 RX1 yX1_followPath wsX1_followPath) := goodIn_app (goodIn_of _ (by decide +kernel)) ggX1_planMost_X1_followPath
theorem dX1_planMost_0 : decode cX1_planMost 0 = .ok (.iconst 0, 1) := by decide +kernel
theorem dX1_planMost_1 : decode cX1_planMost 1 = .ok (.istore_n 1, 1) := by decide +kernel
theorem dX1_planMost_2 : decode cX1_planMost 2 = .ok (.iload_n 1, 1) := by decide +kernel
theorem dX1_planMost_3 : decode cX1_planMost 3 = .ok (.bipush 100, 2) := by decide +kernel
theorem dX1_planMost_5 : decode cX1_planMost 5 = .ok (.if_icmp .ge 29, 3) := by decide +kernel
theorem dX1_planMost_8 : decode cX1_planMost 8 = .ok (.aload_n 0, 1) := by decide +kernel
theorem dX1_planMost_9 : decode cX1_planMost 9 = .ok (.bipush 20, 2) := by decide +kernel
theorem dX1_planMost_11 : decode cX1_planMost 11 = .ok (.bipush 21, 2) := by decide +kernel
theorem dX1_planMost_13 : decode cX1_planMost 13 = .ok (.invokevirtual 52, 3) := by decide +kernel
theorem dX1_planMost_16 : decode cX1_planMost 16 = .ok (.ifCond .ne 4, 3) := by decide +kernel
theorem dX1_planMost_19 : decode cX1_planMost 19 = .ok (.return_, 1) := by decide +kernel
theorem dX1_planMost_20 : decode cX1_planMost 20 = .ok (.aload_n 0, 1) := by decide +kernel
theorem dX1_planMost_21 : decode cX1_planMost 21 = .ok (.bipush 20, 2) := by decide +kernel
theorem dX1_planMost_23 : decode cX1_planMost 23 = .ok (.bipush 21, 2) := by decide +kernel
theorem dX1_planMost_25 : decode cX1_planMost 25 = .ok (.invokevirtual 56, 3) := by decide +kernel
theorem dX1_planMost_28 : decode cX1_planMost 28 = .ok (.iinc 1 1, 3) := by decide +kernel
theorem dX1_planMost_31 : decode cX1_planMost 31 = .ok (.goto (-29), 3) := by decide +kernel
theorem dX1_planMost_34 : decode cX1_planMost 34 = .ok (.return_, 1) := by decide +kernel
set_option maxRecDepth 20000 in
theorem ggX1_planLeastRow_X1_placeVisited : GoodIn wsX1_planLeastRow wsX1_placeVisited := goodIn_r _ [5] (by decide +kernel) (by decide +kernel)
set_option maxRecDepth 20000 in
theorem gX1_planLeastRow_X1_placeVisited : GoodIn wsX1_planLeastRow (va_wsS RX1 40 yX1_placeVisited wsX1_placeVisited) := goodIn_app (goodIn_of _ (by decide +kernel)) ggX1_planLeastRow_X1_placeVisited
set_option maxRecDepth 20000 in
theorem ggX1_planLeastRow_X5_hasBit : GoodIn wsX1_planLeastRow wsX5_hasBit := goodIn_r _ [8] (by decide +kernel) (by decide +kernel)
set_option maxRecDepth 20000 in
theorem gX1_planLeastRow_X5_hasBit_n59 : GoodIn wsX1_planLeastRow (wsX5_hasBit) := ggX1_planLeastRow_X5_hasBit
set_option maxRecDepth 20000 in
theorem ggX1_planLeastRow_X1_findPath : GoodIn wsX1_planLeastRow wsX1_findPath := goodIn_r _ [12, 13, 1, 14, 15, 16, 4, 17, 18, 19, 20, 21, 22, 23, 24, 6, 7, 8, 55, 56, 57, 58, 59, 60, 61] (by decide +kernel) (by decide +kernel)
set_option maxRecDepth 20000 in
theorem gX1_planLeastRow_X1_findPath : GoodIn wsX1_planLeastRow (wsV RX1 52 RX1 yX1_findPath wsX1_findPath) := goodIn_app (goodIn_of _ (by decide +kernel)) ggX1_planLeastRow_X1_findPath
set_option maxRecDepth 20000 in
theorem ggX1_planLeastRow_X1_followPath : GoodIn wsX1_planLeastRow wsX1_followPath := goodIn_r _ [28, 14, 29, 30, 31, 4, 32, 33, 7, 34, 35, 36, 37, 38, 39, 40, 2, 3, 5, 41, 42, 43, 44, 1, 45, 46, 47, 48, 49, 50, 18, 19, 20, 21, 22, 23, 24, 51, 52, 53, 54, 55, 56, 57, 58, 59, 60, 61] (by decide +kernel) (by decide +kernel)
set_option maxRecDepth 20000 in
theorem gX1_planLeastRow_X1_followPath : GoodIn wsX1_planLeastRow (wsV RX1 56 RX1 yX1_followPath wsX1_followPath) := goodIn_app (goodIn_of _ (by decide +kernel)) ggX1_planLeastRow_X1_followPath
set_option maxRecDepth 20000 in
theorem ggX1_planLeastRow_X1_addVisit : GoodIn wsX1_planLeastRow wsX1_addVisit := goodIn_r _ [38, 39, 40, 2, 3, 4, 5, 41, 42, 43, 44, 1, 45, 46, 47, 48, 49, 50, 18, 19, 20, 21, 22, 23, 24, 55, 56, 57, 58, 59, 60, 61] (by decide +kernel) (by decide +kernel)
set_option maxRecDepth 20000 in
theorem gX1_planLeastRow_X1_addVisit : GoodIn wsX1_planLeastRow (wsV RX1 62 RX1 yX1_addVisit wsX1_addVisit) := goodIn_app (goodIn_of _ (by decide +kernel)) ggX1_planLeastRow_X1_addVisit
set_option maxRecDepth 20000 in
theorem ggX1_planLeastRow_X1_setWay : GoodIn wsX1_planLeastRow wsX1_setWay := goodIn_r _ [44, 1, 55, 56, 57, 58, 59, 60, 61] (by decide +kernel) (by decide +kernel)
set_option maxRecDepth 20000 in
theorem gX1_planLeastRow_X1_setWay : GoodIn wsX1_planLeastRow (wsV RX1 44 RX1 yX1_setWay wsX1_setWay) := goodIn_app (goodIn_of _ (by decide +kernel)) ggX1_planLeastRow_X1_setWay
theorem dX1_planLeastRow_0 : decode cX1_planLeastRow 0 = .ok (.iconst 0, 1) := by decide +kernel
theorem dX1_planLeastRow_1 : decode cX1_planLeastRow 1 = .ok (.istore_n 2, 1) := by decide +kernel
theorem dX1_planLeastRow_2 : decode cX1_planLeastRow 2 = .ok (.iload_n 2, 1) := by decide +kernel
theorem dX1_planLeastRow_3 : decode cX1_planLeastRow 3 = .ok (.iload_n 1, 1) := by decide +kernel
theorem dX1_planLeastRow_4 : decode cX1_planLeastRow 4 = .ok (.if_icmp .ge 93, 3) := by decide +kernel
theorem dX1_planLeastRow_7 : decode cX1_planLeastRow 7 = .ok (.iload_n 2, 1) := by decide +kernel
theorem dX1_planLeastRow_8 : decode cX1_planLeastRow 8 = .ok (.bipush 10, 2) := by decide +kernel
theorem dX1_planLeastRow_10 : decode cX1_planLeastRow 10 = .ok (.if_icmp .ge 87, 3) := by decide +kernel
theorem dX1_planLeastRow_13 : decode cX1_planLeastRow 13 = .ok (.iconst 0, 1) := by decide +kernel
theorem dX1_planLeastRow_14 : decode cX1_planLeastRow 14 = .ok (.istore_n 3, 1) := by decide +kernel
theorem dX1_planLeastRow_15 : decode cX1_planLeastRow 15 = .ok (.iload_n 3, 1) := by decide +kernel
theorem dX1_planLeastRow_16 : decode cX1_planLeastRow 16 = .ok (.iload_n 1, 1) := by decide +kernel
theorem dX1_planLeastRow_17 : decode cX1_planLeastRow 17 = .ok (.if_icmp .ge 74, 3) := by decide +kernel
theorem dX1_planLeastRow_20 : decode cX1_planLeastRow 20 = .ok (.iload_n 3, 1) := by decide +kernel
theorem dX1_planLeastRow_21 : decode cX1_planLeastRow 21 = .ok (.bipush 10, 2) := by decide +kernel
theorem dX1_planLeastRow_23 : decode cX1_planLeastRow 23 = .ok (.if_icmp .ge 68, 3) := by decide +kernel
theorem dX1_planLeastRow_26 : decode cX1_planLeastRow 26 = .ok (.iload_n 2, 1) := by decide +kernel
theorem dX1_planLeastRow_27 : decode cX1_planLeastRow 27 = .ok (.invokestatic 40, 3) := by decide +kernel
theorem dX1_planLeastRow_30 : decode cX1_planLeastRow 30 = .ok (.istore 4, 2) := by decide +kernel
theorem dX1_planLeastRow_32 : decode cX1_planLeastRow 32 = .ok (.aload_n 0, 1) := by decide +kernel
theorem dX1_planLeastRow_33 : decode cX1_planLeastRow 33 = .ok (.getfield 11, 3) := by decide +kernel
theorem dX1_planLeastRow_36 : decode cX1_planLeastRow 36 = .ok (.iload_n 3, 1) := by decide +kernel
theorem dX1_planLeastRow_37 : decode cX1_planLeastRow 37 = .ok (.iaload, 1) := by decide +kernel
theorem dX1_planLeastRow_38 : decode cX1_planLeastRow 38 = .ok (.iload 4, 2) := by decide +kernel
theorem dX1_planLeastRow_40 : decode cX1_planLeastRow 40 = .ok (.invokestatic 59, 3) := by decide +kernel
theorem dX1_planLeastRow_43 : decode cX1_planLeastRow 43 = .ok (.ifCond .eq 26, 3) := by decide +kernel
theorem dX1_planLeastRow_46 : decode cX1_planLeastRow 46 = .ok (.aload_n 0, 1) := by decide +kernel
theorem dX1_planLeastRow_47 : decode cX1_planLeastRow 47 = .ok (.iload 4, 2) := by decide +kernel
theorem dX1_planLeastRow_49 : decode cX1_planLeastRow 49 = .ok (.iload_n 3, 1) := by decide +kernel
theorem dX1_planLeastRow_50 : decode cX1_planLeastRow 50 = .ok (.invokevirtual 52, 3) := by decide +kernel
theorem dX1_planLeastRow_53 : decode cX1_planLeastRow 53 = .ok (.ifCond .eq 16, 3) := by decide +kernel
theorem dX1_planLeastRow_56 : decode cX1_planLeastRow 56 = .ok (.aload_n 0, 1) := by decide +kernel
theorem dX1_planLeastRow_57 : decode cX1_planLeastRow 57 = .ok (.iload 4, 2) := by decide +kernel
theorem dX1_planLeastRow_59 : decode cX1_planLeastRow 59 = .ok (.iload_n 3, 1) := by decide +kernel
theorem dX1_planLeastRow_60 : decode cX1_planLeastRow 60 = .ok (.invokevirtual 56, 3) := by decide +kernel
theorem dX1_planLeastRow_63 : decode cX1_planLeastRow 63 = .ok (.aload_n 0, 1) := by decide +kernel
theorem dX1_planLeastRow_64 : decode cX1_planLeastRow 64 = .ok (.iload_n 3, 1) := by decide +kernel
theorem dX1_planLeastRow_65 : decode cX1_planLeastRow 65 = .ok (.iload_n 2, 1) := by decide +kernel
theorem dX1_planLeastRow_66 : decode cX1_planLeastRow 66 = .ok (.invokevirtual 62, 3) := by decide +kernel
theorem dX1_planLeastRow_69 : decode cX1_planLeastRow 69 = .ok (.aload_n 0, 1) := by decide +kernel
theorem dX1_planLeastRow_70 : decode cX1_planLeastRow 70 = .ok (.iload_n 3, 1) := by decide +kernel
theorem dX1_planLeastRow_71 : decode cX1_planLeastRow 71 = .ok (.iload 4, 2) := by decide +kernel
theorem dX1_planLeastRow_73 : decode cX1_planLeastRow 73 = .ok (.iconst 0, 1) := by decide +kernel
theorem dX1_planLeastRow_74 : decode cX1_planLeastRow 74 = .ok (.invokevirtual 44, 3) := by decide +kernel
theorem dX1_planLeastRow_77 : decode cX1_planLeastRow 77 = .ok (.aload_n 0, 1) := by decide +kernel
theorem dX1_planLeastRow_78 : decode cX1_planLeastRow 78 = .ok (.iload 4, 2) := by decide +kernel
theorem dX1_planLeastRow_80 : decode cX1_planLeastRow 80 = .ok (.iload_n 3, 1) := by decide +kernel
theorem dX1_planLeastRow_81 : decode cX1_planLeastRow 81 = .ok (.iconst 0, 1) := by decide +kernel
theorem dX1_planLeastRow_82 : decode cX1_planLeastRow 82 = .ok (.invokevirtual 44, 3) := by decide +kernel
theorem dX1_planLeastRow_85 : decode cX1_planLeastRow 85 = .ok (.iinc 3 1, 3) := by decide +kernel
theorem dX1_planLeastRow_88 : decode cX1_planLeastRow 88 = .ok (.goto (-73), 3) := by decide +kernel
theorem dX1_planLeastRow_91 : decode cX1_planLeastRow 91 = .ok (.iinc 2 1, 3) := by decide +kernel
theorem dX1_planLeastRow_94 : decode cX1_planLeastRow 94 = .ok (.goto (-92), 3) := by decide +kernel
theorem dX1_planLeastRow_97 : decode cX1_planLeastRow 97 = .ok (.return_, 1) := by decide +kernel
theorem dX1_placeVisited_0 : decode cX1_placeVisited 0 = .ok (.bipush 10, 2) := by decide +kernel
theorem dX1_placeVisited_2 : decode cX1_placeVisited 2 = .ok (.iload_n 0, 1) := by decide +kernel
theorem dX1_placeVisited_3 : decode cX1_placeVisited 3 = .ok (.iadd, 1) := by decide +kernel
theorem dX1_placeVisited_4 : decode cX1_placeVisited 4 = .ok (.ireturn, 1) := by decide +kernel
theorem dX1_setWay_0 : decode cX1_setWay 0 = .ok (.iload_n 3, 1) := by decide +kernel
theorem dX1_setWay_1 : decode cX1_setWay 1 = .ok (.ifCond .eq 18, 3) := by decide +kernel
theorem dX1_setWay_4 : decode cX1_setWay 4 = .ok (.aload_n 0, 1) := by decide +kernel
theorem dX1_setWay_5 : decode cX1_setWay 5 = .ok (.getfield 11, 3) := by decide +kernel
theorem dX1_setWay_8 : decode cX1_setWay 8 = .ok (.iload_n 1, 1) := by decide +kernel
theorem dX1_setWay_9 : decode cX1_setWay 9 = .ok (.dup2, 1) := by decide +kernel
theorem dX1_setWay_10 : decode cX1_setWay 10 = .ok (.iaload, 1) := by decide +kernel
theorem dX1_setWay_11 : decode cX1_setWay 11 = .ok (.iconst 1, 1) := by decide +kernel
theorem dX1_setWay_12 : decode cX1_setWay 12 = .ok (.iload_n 2, 1) := by decide +kernel
theorem dX1_setWay_13 : decode cX1_setWay 13 = .ok (.ishl, 1) := by decide +kernel
theorem dX1_setWay_14 : decode cX1_setWay 14 = .ok (.ior, 1) := by decide +kernel
theorem dX1_setWay_15 : decode cX1_setWay 15 = .ok (.iastore, 1) := by decide +kernel
theorem dX1_setWay_16 : decode cX1_setWay 16 = .ok (.goto 17, 3) := by decide +kernel
theorem dX1_setWay_19 : decode cX1_setWay 19 = .ok (.aload_n 0, 1) := by decide +kernel
theorem dX1_setWay_20 : decode cX1_setWay 20 = .ok (.getfield 11, 3) := by decide +kernel
theorem dX1_setWay_23 : decode cX1_setWay 23 = .ok (.iload_n 1, 1) := by decide +kernel
theorem dX1_setWay_24 : decode cX1_setWay 24 = .ok (.dup2, 1) := by decide +kernel
theorem dX1_setWay_25 : decode cX1_setWay 25 = .ok (.iaload, 1) := by decide +kernel
theorem dX1_setWay_26 : decode cX1_setWay 26 = .ok (.iconst 1, 1) := by decide +kernel
theorem dX1_setWay_27 : decode cX1_setWay 27 = .ok (.iload_n 2, 1) := by decide +kernel
theorem dX1_setWay_28 : decode cX1_setWay 28 = .ok (.ishl, 1) := by decide +kernel
theorem dX1_setWay_29 : decode cX1_setWay 29 = .ok (.iconst (-1), 1) := by decide +kernel
theorem dX1_setWay_30 : decode cX1_setWay 30 = .ok (.ixor, 1) := by decide +kernel
theorem dX1_setWay_31 : decode cX1_setWay 31 = .ok (.iand, 1) := by decide +kernel
theorem dX1_setWay_32 : decode cX1_setWay 32 = .ok (.iastore, 1) := by decide +kernel
theorem dX1_setWay_33 : decode cX1_setWay 33 = .ok (.return_, 1) := by decide +kernel
set_option maxRecDepth 20000 in
theorem ggX1_openByLimits_X1_placeVisited : GoodIn wsX1_openByLimits wsX1_placeVisited := goodIn_r _ [8] (by decide +kernel) (by decide +kernel)
set_option maxRecDepth 20000 in
theorem gX1_openByLimits_X1_placeVisited : GoodIn wsX1_openByLimits (va_wsS RX1 40 yX1_placeVisited wsX1_placeVisited) := goodIn_app (goodIn_of _ (by decide +kernel)) ggX1_openByLimits_X1_placeVisited
set_option maxRecDepth 20000 in
theorem ggX1_openByLimits_J6_bitCount_0f7a4 : GoodIn wsX1_openByLimits wsJ6_bitCount_0f7a4 := goodIn_r _ [12, 13, 14, 15] (by decide +kernel) (by decide +kernel)
set_option maxRecDepth 20000 in
theorem gX1_openByLimits_J6_bitCount_0f7a4 : GoodIn wsX1_openByLimits (va_wsS RX1 65 yJ6_bitCount_0f7a4 wsJ6_bitCount_0f7a4) := goodIn_app (goodIn_of _ (by decide +kernel)) ggX1_openByLimits_J6_bitCount_0f7a4
set_option maxRecDepth 20000 in
theorem ggX1_openByLimits_X1_setWay : GoodIn wsX1_openByLimits wsX1_setWay := goodIn_r _ [19, 20, 21, 22, 23, 24, 25, 26, 27] (by decide +kernel) (by decide +kernel)
set_option maxRecDepth 20000 in
theorem gX1_openByLimits_X1_setWay : GoodIn wsX1_openByLimits (wsV RX1 44 RX1 yX1_setWay wsX1_setWay) := goodIn_app (goodIn_of _ (by decide +kernel)) ggX1_openByLimits_X1_setWay
theorem dX1_openByLimits_0 : decode cX1_openByLimits 0 = .ok (.iload_n 2, 1) := by decide +kernel
theorem dX1_openByLimits_1 : decode cX1_openByLimits 1 = .ok (.invokestatic 40, 3) := by decide +kernel
theorem dX1_openByLimits_4 : decode cX1_openByLimits 4 = .ok (.istore_n 3, 1) := by decide +kernel
theorem dX1_openByLimits_5 : decode cX1_openByLimits 5 = .ok (.aload_n 0, 1) := by decide +kernel
theorem dX1_openByLimits_6 : decode cX1_openByLimits 6 = .ok (.getfield 21, 3) := by decide +kernel
theorem dX1_openByLimits_9 : decode cX1_openByLimits 9 = .ok (.iload_n 2, 1) := by decide +kernel
theorem dX1_openByLimits_10 : decode cX1_openByLimits 10 = .ok (.iaload, 1) := by decide +kernel
theorem dX1_openByLimits_11 : decode cX1_openByLimits 11 = .ok (.invokestatic 65, 3) := by decide +kernel
theorem dX1_openByLimits_14 : decode cX1_openByLimits 14 = .ok (.istore 4, 2) := by decide +kernel
theorem dX1_openByLimits_16 : decode cX1_openByLimits 16 = .ok (.aload_n 0, 1) := by decide +kernel
theorem dX1_openByLimits_17 : decode cX1_openByLimits 17 = .ok (.bipush 20, 2) := by decide +kernel
theorem dX1_openByLimits_19 : decode cX1_openByLimits 19 = .ok (.iload_n 1, 1) := by decide +kernel
theorem dX1_openByLimits_20 : decode cX1_openByLimits 20 = .ok (.aload_n 0, 1) := by decide +kernel
theorem dX1_openByLimits_21 : decode cX1_openByLimits 21 = .ok (.getfield 24, 3) := by decide +kernel
theorem dX1_openByLimits_24 : decode cX1_openByLimits 24 = .ok (.iload_n 1, 1) := by decide +kernel
theorem dX1_openByLimits_25 : decode cX1_openByLimits 25 = .ok (.iaload, 1) := by decide +kernel
theorem dX1_openByLimits_26 : decode cX1_openByLimits 26 = .ok (.aload_n 0, 1) := by decide +kernel
theorem dX1_openByLimits_27 : decode cX1_openByLimits 27 = .ok (.getfield 31, 3) := by decide +kernel
theorem dX1_openByLimits_30 : decode cX1_openByLimits 30 = .ok (.if_icmp .ge 7, 3) := by decide +kernel
theorem dX1_openByLimits_33 : decode cX1_openByLimits 33 = .ok (.iconst 1, 1) := by decide +kernel
theorem dX1_openByLimits_34 : decode cX1_openByLimits 34 = .ok (.goto 4, 3) := by decide +kernel
theorem dX1_openByLimits_37 : decode cX1_openByLimits 37 = .ok (.iconst 0, 1) := by decide +kernel
theorem dX1_openByLimits_38 : decode cX1_openByLimits 38 = .ok (.invokevirtual 44, 3) := by decide +kernel
theorem dX1_openByLimits_41 : decode cX1_openByLimits 41 = .ok (.aload_n 0, 1) := by decide +kernel
theorem dX1_openByLimits_42 : decode cX1_openByLimits 42 = .ok (.iload_n 1, 1) := by decide +kernel
theorem dX1_openByLimits_43 : decode cX1_openByLimits 43 = .ok (.bipush 20, 2) := by decide +kernel
theorem dX1_openByLimits_45 : decode cX1_openByLimits 45 = .ok (.aload_n 0, 1) := by decide +kernel
theorem dX1_openByLimits_46 : decode cX1_openByLimits 46 = .ok (.getfield 24, 3) := by decide +kernel
theorem dX1_openByLimits_49 : decode cX1_openByLimits 49 = .ok (.iload_n 1, 1) := by decide +kernel
theorem dX1_openByLimits_50 : decode cX1_openByLimits 50 = .ok (.iaload, 1) := by decide +kernel
theorem dX1_openByLimits_51 : decode cX1_openByLimits 51 = .ok (.ifCond .le 7, 3) := by decide +kernel
theorem dX1_openByLimits_54 : decode cX1_openByLimits 54 = .ok (.iconst 1, 1) := by decide +kernel
theorem dX1_openByLimits_55 : decode cX1_openByLimits 55 = .ok (.goto 4, 3) := by decide +kernel
theorem dX1_openByLimits_58 : decode cX1_openByLimits 58 = .ok (.iconst 0, 1) := by decide +kernel
theorem dX1_openByLimits_59 : decode cX1_openByLimits 59 = .ok (.invokevirtual 44, 3) := by decide +kernel
theorem dX1_openByLimits_62 : decode cX1_openByLimits 62 = .ok (.aload_n 0, 1) := by decide +kernel
theorem dX1_openByLimits_63 : decode cX1_openByLimits 63 = .ok (.iload_n 3, 1) := by decide +kernel
theorem dX1_openByLimits_64 : decode cX1_openByLimits 64 = .ok (.bipush 21, 2) := by decide +kernel
theorem dX1_openByLimits_66 : decode cX1_openByLimits 66 = .ok (.iload 4, 2) := by decide +kernel
theorem dX1_openByLimits_68 : decode cX1_openByLimits 68 = .ok (.aload_n 0, 1) := by decide +kernel
theorem dX1_openByLimits_69 : decode cX1_openByLimits 69 = .ok (.getfield 27, 3) := by decide +kernel
theorem dX1_openByLimits_72 : decode cX1_openByLimits 72 = .ok (.if_icmp .ge 7, 3) := by decide +kernel
theorem dX1_openByLimits_75 : decode cX1_openByLimits 75 = .ok (.iconst 1, 1) := by decide +kernel
theorem dX1_openByLimits_76 : decode cX1_openByLimits 76 = .ok (.goto 4, 3) := by decide +kernel
theorem dX1_openByLimits_79 : decode cX1_openByLimits 79 = .ok (.iconst 0, 1) := by decide +kernel
theorem dX1_openByLimits_80 : decode cX1_openByLimits 80 = .ok (.invokevirtual 44, 3) := by decide +kernel
theorem dX1_openByLimits_83 : decode cX1_openByLimits 83 = .ok (.aload_n 0, 1) := by decide +kernel
theorem dX1_openByLimits_84 : decode cX1_openByLimits 84 = .ok (.bipush 21, 2) := by decide +kernel
theorem dX1_openByLimits_86 : decode cX1_openByLimits 86 = .ok (.iload_n 3, 1) := by decide +kernel
theorem dX1_openByLimits_87 : decode cX1_openByLimits 87 = .ok (.iload 4, 2) := by decide +kernel
theorem dX1_openByLimits_89 : decode cX1_openByLimits 89 = .ok (.ifCond .le 7, 3) := by decide +kernel
theorem dX1_openByLimits_92 : decode cX1_openByLimits 92 = .ok (.iconst 1, 1) := by decide +kernel
theorem dX1_openByLimits_93 : decode cX1_openByLimits 93 = .ok (.goto 4, 3) := by decide +kernel
theorem dX1_openByLimits_96 : decode cX1_openByLimits 96 = .ok (.iconst 0, 1) := by decide +kernel
theorem dX1_openByLimits_97 : decode cX1_openByLimits 97 = .ok (.invokevirtual 44, 3) := by decide +kernel
theorem dX1_openByLimits_100 : decode cX1_openByLimits 100 = .ok (.return_, 1) := by decide +kernel
set_option maxRecDepth 20000 in
theorem ggX1_addVisit_X1_placeVisited : GoodIn wsX1_addVisit wsX1_placeVisited := goodIn_r _ [6] (by decide +kernel) (by decide +kernel)
set_option maxRecDepth 20000 in
theorem gX1_addVisit_X1_placeVisited : GoodIn wsX1_addVisit (va_wsS RX1 40 yX1_placeVisited wsX1_placeVisited) := goodIn_app (goodIn_of _ (by decide +kernel)) ggX1_addVisit_X1_placeVisited
set_option maxRecDepth 20000 in
theorem ggX1_addVisit_X1_setWay : GoodIn wsX1_addVisit wsX1_setWay := goodIn_r _ [10, 11, 25, 26, 27, 28, 29, 30, 31] (by decide +kernel) (by decide +kernel)
set_option maxRecDepth 20000 in
theorem gX1_addVisit_X1_setWay : GoodIn wsX1_addVisit (wsV RX1 44 RX1 yX1_setWay wsX1_setWay) := goodIn_app (goodIn_of _ (by decide +kernel)) ggX1_addVisit_X1_setWay
set_option maxRecDepth 20000 in
theorem ggX1_addVisit_X1_openByLimits : GoodIn wsX1_addVisit wsX1_openByLimits := goodIn_r _ [15, 1, 2, 16, 17, 3, 4, 5, 6, 18, 19, 20, 21, 22, 23, 24, 7, 8, 9, 10, 11, 25, 26, 27, 28, 29, 30, 31] (by decide +kernel) (by decide +kernel)
set_option maxRecDepth 20000 in
theorem gX1_addVisit_X1_openByLimits : GoodIn wsX1_addVisit (wsV RX1 48 RX1 yX1_openByLimits wsX1_openByLimits) := goodIn_app (goodIn_of _ (by decide +kernel)) ggX1_addVisit_X1_openByLimits
theorem dX1_addVisit_0 : decode cX1_addVisit 0 = .ok (.aload_n 0, 1) := by decide +kernel
theorem dX1_addVisit_1 : decode cX1_addVisit 1 = .ok (.getfield 21, 3) := by decide +kernel
theorem dX1_addVisit_4 : decode cX1_addVisit 4 = .ok (.iload_n 2, 1) := by decide +kernel
theorem dX1_addVisit_5 : decode cX1_addVisit 5 = .ok (.dup2, 1) := by decide +kernel
theorem dX1_addVisit_6 : decode cX1_addVisit 6 = .ok (.iaload, 1) := by decide +kernel
theorem dX1_addVisit_7 : decode cX1_addVisit 7 = .ok (.iconst 1, 1) := by decide +kernel
theorem dX1_addVisit_8 : decode cX1_addVisit 8 = .ok (.iload_n 1, 1) := by decide +kernel
theorem dX1_addVisit_9 : decode cX1_addVisit 9 = .ok (.ishl, 1) := by decide +kernel
theorem dX1_addVisit_10 : decode cX1_addVisit 10 = .ok (.ior, 1) := by decide +kernel
theorem dX1_addVisit_11 : decode cX1_addVisit 11 = .ok (.iastore, 1) := by decide +kernel
theorem dX1_addVisit_12 : decode cX1_addVisit 12 = .ok (.aload_n 0, 1) := by decide +kernel
theorem dX1_addVisit_13 : decode cX1_addVisit 13 = .ok (.getfield 24, 3) := by decide +kernel
theorem dX1_addVisit_16 : decode cX1_addVisit 16 = .ok (.iload_n 1, 1) := by decide +kernel
theorem dX1_addVisit_17 : decode cX1_addVisit 17 = .ok (.dup2, 1) := by decide +kernel
theorem dX1_addVisit_18 : decode cX1_addVisit 18 = .ok (.iaload, 1) := by decide +kernel
theorem dX1_addVisit_19 : decode cX1_addVisit 19 = .ok (.iconst 1, 1) := by decide +kernel
theorem dX1_addVisit_20 : decode cX1_addVisit 20 = .ok (.iadd, 1) := by decide +kernel
theorem dX1_addVisit_21 : decode cX1_addVisit 21 = .ok (.iastore, 1) := by decide +kernel
theorem dX1_addVisit_22 : decode cX1_addVisit 22 = .ok (.aload_n 0, 1) := by decide +kernel
theorem dX1_addVisit_23 : decode cX1_addVisit 23 = .ok (.iload_n 1, 1) := by decide +kernel
theorem dX1_addVisit_24 : decode cX1_addVisit 24 = .ok (.iload_n 2, 1) := by decide +kernel
theorem dX1_addVisit_25 : decode cX1_addVisit 25 = .ok (.invokestatic 40, 3) := by decide +kernel
theorem dX1_addVisit_28 : decode cX1_addVisit 28 = .ok (.iconst 0, 1) := by decide +kernel
theorem dX1_addVisit_29 : decode cX1_addVisit 29 = .ok (.invokevirtual 44, 3) := by decide +kernel
theorem dX1_addVisit_32 : decode cX1_addVisit 32 = .ok (.aload_n 0, 1) := by decide +kernel
theorem dX1_addVisit_33 : decode cX1_addVisit 33 = .ok (.iload_n 2, 1) := by decide +kernel
theorem dX1_addVisit_34 : decode cX1_addVisit 34 = .ok (.invokestatic 40, 3) := by decide +kernel
theorem dX1_addVisit_37 : decode cX1_addVisit 37 = .ok (.iload_n 1, 1) := by decide +kernel
theorem dX1_addVisit_38 : decode cX1_addVisit 38 = .ok (.iconst 1, 1) := by decide +kernel
theorem dX1_addVisit_39 : decode cX1_addVisit 39 = .ok (.invokevirtual 44, 3) := by decide +kernel
theorem dX1_addVisit_42 : decode cX1_addVisit 42 = .ok (.aload_n 0, 1) := by decide +kernel
theorem dX1_addVisit_43 : decode cX1_addVisit 43 = .ok (.iload_n 1, 1) := by decide +kernel
theorem dX1_addVisit_44 : decode cX1_addVisit 44 = .ok (.iload_n 2, 1) := by decide +kernel
theorem dX1_addVisit_45 : decode cX1_addVisit 45 = .ok (.invokevirtual 48, 3) := by decide +kernel
theorem dX1_addVisit_48 : decode cX1_addVisit 48 = .ok (.return_, 1) := by decide +kernel
set_option maxRecDepth 20000 in
theorem ggX1_dropVisit_X1_placeVisited : GoodIn wsX1_dropVisit wsX1_placeVisited := goodIn_r _ [6] (by decide +kernel) (by decide +kernel)
set_option maxRecDepth 20000 in
theorem gX1_dropVisit_X1_placeVisited : GoodIn wsX1_dropVisit (va_wsS RX1 40 yX1_placeVisited wsX1_placeVisited) := goodIn_app (goodIn_of _ (by decide +kernel)) ggX1_dropVisit_X1_placeVisited
set_option maxRecDepth 20000 in
theorem ggX1_dropVisit_X1_setWay : GoodIn wsX1_dropVisit wsX1_setWay := goodIn_r _ [10, 11, 25, 26, 27, 28, 29, 30, 31] (by decide +kernel) (by decide +kernel)
set_option maxRecDepth 20000 in
theorem gX1_dropVisit_X1_setWay : GoodIn wsX1_dropVisit (wsV RX1 44 RX1 yX1_setWay wsX1_setWay) := goodIn_app (goodIn_of _ (by decide +kernel)) ggX1_dropVisit_X1_setWay
set_option maxRecDepth 20000 in
theorem ggX1_dropVisit_X1_openByLimits : GoodIn wsX1_dropVisit wsX1_openByLimits := goodIn_r _ [15, 1, 2, 16, 17, 3, 4, 5, 6, 18, 19, 20, 21, 22, 23, 24, 7, 8, 9, 10, 11, 25, 26, 27, 28, 29, 30, 31] (by decide +kernel) (by decide +kernel)
set_option maxRecDepth 20000 in
theorem gX1_dropVisit_X1_openByLimits : GoodIn wsX1_dropVisit (wsV RX1 48 RX1 yX1_openByLimits wsX1_openByLimits) := goodIn_app (goodIn_of _ (by decide +kernel)) ggX1_dropVisit_X1_openByLimits
theorem dX1_dropVisit_0 : decode cX1_dropVisit 0 = .ok (.aload_n 0, 1) := by decide +kernel
theorem dX1_dropVisit_1 : decode cX1_dropVisit 1 = .ok (.getfield 21, 3) := by decide +kernel
theorem dX1_dropVisit_4 : decode cX1_dropVisit 4 = .ok (.iload_n 2, 1) := by decide +kernel
theorem dX1_dropVisit_5 : decode cX1_dropVisit 5 = .ok (.dup2, 1) := by decide +kernel
theorem dX1_dropVisit_6 : decode cX1_dropVisit 6 = .ok (.iaload, 1) := by decide +kernel
theorem dX1_dropVisit_7 : decode cX1_dropVisit 7 = .ok (.iconst 1, 1) := by decide +kernel
theorem dX1_dropVisit_8 : decode cX1_dropVisit 8 = .ok (.iload_n 1, 1) := by decide +kernel
theorem dX1_dropVisit_9 : decode cX1_dropVisit 9 = .ok (.ishl, 1) := by decide +kernel
theorem dX1_dropVisit_10 : decode cX1_dropVisit 10 = .ok (.iconst (-1), 1) := by decide +kernel
theorem dX1_dropVisit_11 : decode cX1_dropVisit 11 = .ok (.ixor, 1) := by decide +kernel
theorem dX1_dropVisit_12 : decode cX1_dropVisit 12 = .ok (.iand, 1) := by decide +kernel
theorem dX1_dropVisit_13 : decode cX1_dropVisit 13 = .ok (.iastore, 1) := by decide +kernel
theorem dX1_dropVisit_14 : decode cX1_dropVisit 14 = .ok (.aload_n 0, 1) := by decide +kernel
theorem dX1_dropVisit_15 : decode cX1_dropVisit 15 = .ok (.getfield 24, 3) := by decide +kernel
theorem dX1_dropVisit_18 : decode cX1_dropVisit 18 = .ok (.iload_n 1, 1) := by decide +kernel
theorem dX1_dropVisit_19 : decode cX1_dropVisit 19 = .ok (.dup2, 1) := by decide +kernel
theorem dX1_dropVisit_20 : decode cX1_dropVisit 20 = .ok (.iaload, 1) := by decide +kernel
theorem dX1_dropVisit_21 : decode cX1_dropVisit 21 = .ok (.iconst 1, 1) := by decide +kernel
theorem dX1_dropVisit_22 : decode cX1_dropVisit 22 = .ok (.isub, 1) := by decide +kernel
theorem dX1_dropVisit_23 : decode cX1_dropVisit 23 = .ok (.iastore, 1) := by decide +kernel
theorem dX1_dropVisit_24 : decode cX1_dropVisit 24 = .ok (.aload_n 0, 1) := by decide +kernel
theorem dX1_dropVisit_25 : decode cX1_dropVisit 25 = .ok (.iload_n 1, 1) := by decide +kernel
theorem dX1_dropVisit_26 : decode cX1_dropVisit 26 = .ok (.iload_n 2, 1) := by decide +kernel
theorem dX1_dropVisit_27 : decode cX1_dropVisit 27 = .ok (.invokestatic 40, 3) := by decide +kernel
theorem dX1_dropVisit_30 : decode cX1_dropVisit 30 = .ok (.iconst 1, 1) := by decide +kernel
theorem dX1_dropVisit_31 : decode cX1_dropVisit 31 = .ok (.invokevirtual 44, 3) := by decide +kernel
theorem dX1_dropVisit_34 : decode cX1_dropVisit 34 = .ok (.aload_n 0, 1) := by decide +kernel
theorem dX1_dropVisit_35 : decode cX1_dropVisit 35 = .ok (.iload_n 2, 1) := by decide +kernel
theorem dX1_dropVisit_36 : decode cX1_dropVisit 36 = .ok (.invokestatic 40, 3) := by decide +kernel
theorem dX1_dropVisit_39 : decode cX1_dropVisit 39 = .ok (.iload_n 1, 1) := by decide +kernel
theorem dX1_dropVisit_40 : decode cX1_dropVisit 40 = .ok (.iconst 0, 1) := by decide +kernel
theorem dX1_dropVisit_41 : decode cX1_dropVisit 41 = .ok (.invokevirtual 44, 3) := by decide +kernel
theorem dX1_dropVisit_44 : decode cX1_dropVisit 44 = .ok (.aload_n 0, 1) := by decide +kernel
theorem dX1_dropVisit_45 : decode cX1_dropVisit 45 = .ok (.iload_n 1, 1) := by decide +kernel
theorem dX1_dropVisit_46 : decode cX1_dropVisit 46 = .ok (.iload_n 2, 1) := by decide +kernel
theorem dX1_dropVisit_47 : decode cX1_dropVisit 47 = .ok (.invokevirtual 48, 3) := by decide +kernel
theorem dX1_dropVisit_50 : decode cX1_dropVisit 50 = .ok (.return_, 1) := by decide +kernel
set_option maxRecDepth 20000 in
theorem ggX1_findPath_X1_lowestBit : GoodIn wsX1_findPath wsX1_lowestBit := goodIn_r _ [7, 8, 9, 10, 11, 12, 13, 14] (by decide +kernel) (by decide +kernel)
set_option maxRecDepth 20000 in
theorem gX1_findPath_X1_lowestBit : GoodIn wsX1_findPath (va_wsS RX1 70 yX1_lowestBit wsX1_lowestBit) := goodIn_app (goodIn_of _ (by decide +kernel)) ggX1_findPath_X1_lowestBit
set_option maxRecDepth 20000 in
theorem ggX1_findPath_X5_hasBit : GoodIn wsX1_findPath wsX5_hasBit := goodIn_r _ [17] (by decide +kernel) (by decide +kernel)
set_option maxRecDepth 20000 in
theorem gX1_findPath_X5_hasBit_n59 : GoodIn wsX1_findPath (wsX5_hasBit) := ggX1_findPath_X5_hasBit
theorem dX1_findPath_0 : decode cX1_findPath 0 = .ok (.iconst 1, 1) := by decide +kernel
theorem dX1_findPath_1 : decode cX1_findPath 1 = .ok (.iload_n 1, 1) := by decide +kernel
theorem dX1_findPath_2 : decode cX1_findPath 2 = .ok (.ishl, 1) := by decide +kernel
theorem dX1_findPath_3 : decode cX1_findPath 3 = .ok (.istore_n 3, 1) := by decide +kernel
theorem dX1_findPath_4 : decode cX1_findPath 4 = .ok (.iconst 1, 1) := by decide +kernel
theorem dX1_findPath_5 : decode cX1_findPath 5 = .ok (.istore 4, 2) := by decide +kernel
theorem dX1_findPath_7 : decode cX1_findPath 7 = .ok (.aload_n 0, 1) := by decide +kernel
theorem dX1_findPath_8 : decode cX1_findPath 8 = .ok (.getfield 18, 3) := by decide +kernel
theorem dX1_findPath_11 : decode cX1_findPath 11 = .ok (.iconst 0, 1) := by decide +kernel
theorem dX1_findPath_12 : decode cX1_findPath 12 = .ok (.iload_n 1, 1) := by decide +kernel
theorem dX1_findPath_13 : decode cX1_findPath 13 = .ok (.iastore, 1) := by decide +kernel
theorem dX1_findPath_14 : decode cX1_findPath 14 = .ok (.iconst 0, 1) := by decide +kernel
theorem dX1_findPath_15 : decode cX1_findPath 15 = .ok (.istore 5, 2) := by decide +kernel
theorem dX1_findPath_17 : decode cX1_findPath 17 = .ok (.iload 5, 2) := by decide +kernel
theorem dX1_findPath_19 : decode cX1_findPath 19 = .ok (.iload 4, 2) := by decide +kernel
theorem dX1_findPath_21 : decode cX1_findPath 21 = .ok (.if_icmp .ge 109, 3) := by decide +kernel
theorem dX1_findPath_24 : decode cX1_findPath 24 = .ok (.iload 5, 2) := by decide +kernel
theorem dX1_findPath_26 : decode cX1_findPath 26 = .ok (.bipush 22, 2) := by decide +kernel
theorem dX1_findPath_28 : decode cX1_findPath 28 = .ok (.if_icmp .ge 102, 3) := by decide +kernel
theorem dX1_findPath_31 : decode cX1_findPath 31 = .ok (.aload_n 0, 1) := by decide +kernel
theorem dX1_findPath_32 : decode cX1_findPath 32 = .ok (.getfield 18, 3) := by decide +kernel
theorem dX1_findPath_35 : decode cX1_findPath 35 = .ok (.iload 5, 2) := by decide +kernel
theorem dX1_findPath_37 : decode cX1_findPath 37 = .ok (.iaload, 1) := by decide +kernel
theorem dX1_findPath_38 : decode cX1_findPath 38 = .ok (.istore 6, 2) := by decide +kernel
theorem dX1_findPath_40 : decode cX1_findPath 40 = .ok (.aload_n 0, 1) := by decide +kernel
theorem dX1_findPath_41 : decode cX1_findPath 41 = .ok (.getfield 11, 3) := by decide +kernel
theorem dX1_findPath_44 : decode cX1_findPath 44 = .ok (.iload 6, 2) := by decide +kernel
theorem dX1_findPath_46 : decode cX1_findPath 46 = .ok (.iaload, 1) := by decide +kernel
theorem dX1_findPath_47 : decode cX1_findPath 47 = .ok (.iload_n 3, 1) := by decide +kernel
theorem dX1_findPath_48 : decode cX1_findPath 48 = .ok (.iconst (-1), 1) := by decide +kernel
theorem dX1_findPath_49 : decode cX1_findPath 49 = .ok (.ixor, 1) := by decide +kernel
theorem dX1_findPath_50 : decode cX1_findPath 50 = .ok (.iand, 1) := by decide +kernel
theorem dX1_findPath_51 : decode cX1_findPath 51 = .ok (.istore 7, 2) := by decide +kernel
theorem dX1_findPath_53 : decode cX1_findPath 53 = .ok (.iload_n 3, 1) := by decide +kernel
theorem dX1_findPath_54 : decode cX1_findPath 54 = .ok (.iload 7, 2) := by decide +kernel
theorem dX1_findPath_56 : decode cX1_findPath 56 = .ok (.ior, 1) := by decide +kernel
theorem dX1_findPath_57 : decode cX1_findPath 57 = .ok (.istore_n 3, 1) := by decide +kernel
theorem dX1_findPath_58 : decode cX1_findPath 58 = .ok (.iload 7, 2) := by decide +kernel
theorem dX1_findPath_60 : decode cX1_findPath 60 = .ok (.istore 8, 2) := by decide +kernel
theorem dX1_findPath_62 : decode cX1_findPath 62 = .ok (.iload 8, 2) := by decide +kernel
theorem dX1_findPath_64 : decode cX1_findPath 64 = .ok (.ifCond .eq 50, 3) := by decide +kernel
theorem dX1_findPath_67 : decode cX1_findPath 67 = .ok (.iload 4, 2) := by decide +kernel
theorem dX1_findPath_69 : decode cX1_findPath 69 = .ok (.bipush 22, 2) := by decide +kernel
theorem dX1_findPath_71 : decode cX1_findPath 71 = .ok (.if_icmp .ge 43, 3) := by decide +kernel
theorem dX1_findPath_74 : decode cX1_findPath 74 = .ok (.iload 8, 2) := by decide +kernel
theorem dX1_findPath_76 : decode cX1_findPath 76 = .ok (.invokestatic 70, 3) := by decide +kernel
theorem dX1_findPath_79 : decode cX1_findPath 79 = .ok (.istore 9, 2) := by decide +kernel
theorem dX1_findPath_81 : decode cX1_findPath 81 = .ok (.aload_n 0, 1) := by decide +kernel
theorem dX1_findPath_82 : decode cX1_findPath 82 = .ok (.getfield 15, 3) := by decide +kernel
theorem dX1_findPath_85 : decode cX1_findPath 85 = .ok (.iload 9, 2) := by decide +kernel
theorem dX1_findPath_87 : decode cX1_findPath 87 = .ok (.iload 6, 2) := by decide +kernel
theorem dX1_findPath_89 : decode cX1_findPath 89 = .ok (.iastore, 1) := by decide +kernel
theorem dX1_findPath_90 : decode cX1_findPath 90 = .ok (.aload_n 0, 1) := by decide +kernel
theorem dX1_findPath_91 : decode cX1_findPath 91 = .ok (.getfield 18, 3) := by decide +kernel
theorem dX1_findPath_94 : decode cX1_findPath 94 = .ok (.iload 4, 2) := by decide +kernel
theorem dX1_findPath_96 : decode cX1_findPath 96 = .ok (.iload 9, 2) := by decide +kernel
theorem dX1_findPath_98 : decode cX1_findPath 98 = .ok (.iastore, 1) := by decide +kernel
theorem dX1_findPath_99 : decode cX1_findPath 99 = .ok (.iinc 4 1, 3) := by decide +kernel
theorem dX1_findPath_102 : decode cX1_findPath 102 = .ok (.iload 8, 2) := by decide +kernel
theorem dX1_findPath_104 : decode cX1_findPath 104 = .ok (.iload 8, 2) := by decide +kernel
theorem dX1_findPath_106 : decode cX1_findPath 106 = .ok (.iconst 1, 1) := by decide +kernel
theorem dX1_findPath_107 : decode cX1_findPath 107 = .ok (.isub, 1) := by decide +kernel
theorem dX1_findPath_108 : decode cX1_findPath 108 = .ok (.iand, 1) := by decide +kernel
theorem dX1_findPath_109 : decode cX1_findPath 109 = .ok (.istore 8, 2) := by decide +kernel
theorem dX1_findPath_111 : decode cX1_findPath 111 = .ok (.goto (-49), 3) := by decide +kernel
theorem dX1_findPath_114 : decode cX1_findPath 114 = .ok (.iload_n 3, 1) := by decide +kernel
theorem dX1_findPath_115 : decode cX1_findPath 115 = .ok (.iload_n 2, 1) := by decide +kernel
theorem dX1_findPath_116 : decode cX1_findPath 116 = .ok (.invokestatic 59, 3) := by decide +kernel
theorem dX1_findPath_119 : decode cX1_findPath 119 = .ok (.ifCond .eq 5, 3) := by decide +kernel
theorem dX1_findPath_122 : decode cX1_findPath 122 = .ok (.iconst 1, 1) := by decide +kernel
theorem dX1_findPath_123 : decode cX1_findPath 123 = .ok (.ireturn, 1) := by decide +kernel
theorem dX1_findPath_124 : decode cX1_findPath 124 = .ok (.iinc 5 1, 3) := by decide +kernel
theorem dX1_findPath_127 : decode cX1_findPath 127 = .ok (.goto (-110), 3) := by decide +kernel
theorem dX1_findPath_130 : decode cX1_findPath 130 = .ok (.iconst 0, 1) := by decide +kernel
theorem dX1_findPath_131 : decode cX1_findPath 131 = .ok (.ireturn, 1) := by decide +kernel
set_option maxRecDepth 20000 in
theorem ggX1_lowestBit_J6_bitCount_0f7a4 : GoodIn wsX1_lowestBit wsJ6_bitCount_0f7a4 := goodIn_r _ [4, 5, 6, 7] (by decide +kernel) (by decide +kernel)
set_option maxRecDepth 20000 in
theorem gX1_lowestBit_J6_bitCount_0f7a4 : GoodIn wsX1_lowestBit (va_wsS RX1 65 yJ6_bitCount_0f7a4 wsJ6_bitCount_0f7a4) := goodIn_app (goodIn_of _ (by decide +kernel)) ggX1_lowestBit_J6_bitCount_0f7a4
theorem dX1_lowestBit_0 : decode cX1_lowestBit 0 = .ok (.iload_n 0, 1) := by decide +kernel
theorem dX1_lowestBit_1 : decode cX1_lowestBit 1 = .ok (.iload_n 0, 1) := by decide +kernel
theorem dX1_lowestBit_2 : decode cX1_lowestBit 2 = .ok (.ineg, 1) := by decide +kernel
theorem dX1_lowestBit_3 : decode cX1_lowestBit 3 = .ok (.iand, 1) := by decide +kernel
theorem dX1_lowestBit_4 : decode cX1_lowestBit 4 = .ok (.iconst 1, 1) := by decide +kernel
theorem dX1_lowestBit_5 : decode cX1_lowestBit 5 = .ok (.isub, 1) := by decide +kernel
theorem dX1_lowestBit_6 : decode cX1_lowestBit 6 = .ok (.invokestatic 65, 3) := by decide +kernel
theorem dX1_lowestBit_9 : decode cX1_lowestBit 9 = .ok (.ireturn, 1) := by decide +kernel
set_option maxRecDepth 20000 in
theorem ggX1_followPath_X1_moveVisit : GoodIn wsX1_followPath wsX1_moveVisit := goodIn_r _ [6, 7, 8, 9, 10, 11, 12, 5, 13, 14, 15, 16, 17, 18, 19, 20, 21, 22, 23, 24, 25, 26, 27, 28, 29, 30, 31, 32, 33, 34, 35, 36, 37, 38, 39, 40, 41, 42, 43, 44, 45, 46, 47] (by decide +kernel) (by decide +kernel)
set_option maxRecDepth 20000 in
theorem gX1_followPath_X1_moveVisit : GoodIn wsX1_followPath (wsV RX1 73 RX1 yX1_moveVisit wsX1_moveVisit) := goodIn_app (goodIn_of _ (by decide +kernel)) ggX1_followPath_X1_moveVisit
theorem dX1_followPath_0 : decode cX1_followPath 0 = .ok (.iload_n 2, 1) := by decide +kernel
theorem dX1_followPath_1 : decode cX1_followPath 1 = .ok (.istore_n 3, 1) := by decide +kernel
theorem dX1_followPath_2 : decode cX1_followPath 2 = .ok (.iconst 0, 1) := by decide +kernel
theorem dX1_followPath_3 : decode cX1_followPath 3 = .ok (.istore 4, 2) := by decide +kernel
theorem dX1_followPath_5 : decode cX1_followPath 5 = .ok (.iload 4, 2) := by decide +kernel
theorem dX1_followPath_7 : decode cX1_followPath 7 = .ok (.bipush 22, 2) := by decide +kernel
theorem dX1_followPath_9 : decode cX1_followPath 9 = .ok (.if_icmp .ge 32, 3) := by decide +kernel
theorem dX1_followPath_12 : decode cX1_followPath 12 = .ok (.iload_n 3, 1) := by decide +kernel
theorem dX1_followPath_13 : decode cX1_followPath 13 = .ok (.iload_n 1, 1) := by decide +kernel
theorem dX1_followPath_14 : decode cX1_followPath 14 = .ok (.if_icmp .eq 27, 3) := by decide +kernel
theorem dX1_followPath_17 : decode cX1_followPath 17 = .ok (.aload_n 0, 1) := by decide +kernel
theorem dX1_followPath_18 : decode cX1_followPath 18 = .ok (.getfield 15, 3) := by decide +kernel
theorem dX1_followPath_21 : decode cX1_followPath 21 = .ok (.iload_n 3, 1) := by decide +kernel
theorem dX1_followPath_22 : decode cX1_followPath 22 = .ok (.iaload, 1) := by decide +kernel
theorem dX1_followPath_23 : decode cX1_followPath 23 = .ok (.istore 5, 2) := by decide +kernel
theorem dX1_followPath_25 : decode cX1_followPath 25 = .ok (.aload_n 0, 1) := by decide +kernel
theorem dX1_followPath_26 : decode cX1_followPath 26 = .ok (.iload 5, 2) := by decide +kernel
theorem dX1_followPath_28 : decode cX1_followPath 28 = .ok (.iload_n 3, 1) := by decide +kernel
theorem dX1_followPath_29 : decode cX1_followPath 29 = .ok (.invokevirtual 73, 3) := by decide +kernel
theorem dX1_followPath_32 : decode cX1_followPath 32 = .ok (.iload 5, 2) := by decide +kernel
theorem dX1_followPath_34 : decode cX1_followPath 34 = .ok (.istore_n 3, 1) := by decide +kernel
theorem dX1_followPath_35 : decode cX1_followPath 35 = .ok (.iinc 4 1, 3) := by decide +kernel
theorem dX1_followPath_38 : decode cX1_followPath 38 = .ok (.goto (-33), 3) := by decide +kernel
theorem dX1_followPath_41 : decode cX1_followPath 41 = .ok (.return_, 1) := by decide +kernel
set_option maxRecDepth 20000 in
theorem ggX1_moveVisit_X5_isBelow : GoodIn wsX1_moveVisit wsX5_isBelow := goodIn_r _ [3] (by decide +kernel) (by decide +kernel)
set_option maxRecDepth 20000 in
theorem gX1_moveVisit_X5_isBelow_n76 : GoodIn wsX1_moveVisit (wsX5_isBelow) := ggX1_moveVisit_X5_isBelow
set_option maxRecDepth 20000 in
theorem ggX1_moveVisit_X1_addVisit : GoodIn wsX1_moveVisit wsX1_addVisit := goodIn_r _ [8, 9, 10, 11, 12, 7, 13, 14, 15, 16, 17, 18, 19, 20, 21, 22, 23, 24, 25, 26, 27, 28, 29, 30, 31, 36, 37, 38, 39, 40, 41, 42] (by decide +kernel) (by decide +kernel)
set_option maxRecDepth 20000 in
theorem gX1_moveVisit_X1_addVisit : GoodIn wsX1_moveVisit (wsV RX1 62 RX1 yX1_addVisit wsX1_addVisit) := goodIn_app (goodIn_of _ (by decide +kernel)) ggX1_moveVisit_X1_addVisit
set_option maxRecDepth 20000 in
theorem ggX1_moveVisit_X1_dropVisit : GoodIn wsX1_moveVisit wsX1_dropVisit := goodIn_r _ [35, 9, 10, 11, 12, 7, 13, 14, 15, 16, 17, 18, 19, 20, 21, 22, 23, 24, 25, 26, 27, 28, 29, 30, 31, 36, 37, 38, 39, 40, 41, 42] (by decide +kernel) (by decide +kernel)
set_option maxRecDepth 20000 in
theorem gX1_moveVisit_X1_dropVisit : GoodIn wsX1_moveVisit (wsV RX1 79 RX1 yX1_dropVisit wsX1_dropVisit) := goodIn_app (goodIn_of _ (by decide +kernel)) ggX1_moveVisit_X1_dropVisit
theorem dX1_moveVisit_0 : decode cX1_moveVisit 0 = .ok (.iload_n 1, 1) := by decide +kernel
theorem dX1_moveVisit_1 : decode cX1_moveVisit 1 = .ok (.bipush 10, 2) := by decide +kernel
theorem dX1_moveVisit_3 : decode cX1_moveVisit 3 = .ok (.if_icmp .ge 27, 3) := by decide +kernel
theorem dX1_moveVisit_6 : decode cX1_moveVisit 6 = .ok (.iload_n 2, 1) := by decide +kernel
theorem dX1_moveVisit_7 : decode cX1_moveVisit 7 = .ok (.bipush 10, 2) := by decide +kernel
theorem dX1_moveVisit_9 : decode cX1_moveVisit 9 = .ok (.isub, 1) := by decide +kernel
theorem dX1_moveVisit_10 : decode cX1_moveVisit 10 = .ok (.bipush 10, 2) := by decide +kernel
theorem dX1_moveVisit_12 : decode cX1_moveVisit 12 = .ok (.invokestatic 76, 3) := by decide +kernel
theorem dX1_moveVisit_15 : decode cX1_moveVisit 15 = .ok (.ifCond .eq 15, 3) := by decide +kernel
theorem dX1_moveVisit_18 : decode cX1_moveVisit 18 = .ok (.aload_n 0, 1) := by decide +kernel
theorem dX1_moveVisit_19 : decode cX1_moveVisit 19 = .ok (.iload_n 1, 1) := by decide +kernel
theorem dX1_moveVisit_20 : decode cX1_moveVisit 20 = .ok (.iload_n 2, 1) := by decide +kernel
theorem dX1_moveVisit_21 : decode cX1_moveVisit 21 = .ok (.bipush 10, 2) := by decide +kernel
theorem dX1_moveVisit_23 : decode cX1_moveVisit 23 = .ok (.isub, 1) := by decide +kernel
theorem dX1_moveVisit_24 : decode cX1_moveVisit 24 = .ok (.invokevirtual 62, 3) := by decide +kernel
theorem dX1_moveVisit_27 : decode cX1_moveVisit 27 = .ok (.goto 30, 3) := by decide +kernel
theorem dX1_moveVisit_30 : decode cX1_moveVisit 30 = .ok (.iload_n 2, 1) := by decide +kernel
theorem dX1_moveVisit_31 : decode cX1_moveVisit 31 = .ok (.bipush 10, 2) := by decide +kernel
theorem dX1_moveVisit_33 : decode cX1_moveVisit 33 = .ok (.if_icmp .ge 24, 3) := by decide +kernel
theorem dX1_moveVisit_36 : decode cX1_moveVisit 36 = .ok (.iload_n 1, 1) := by decide +kernel
theorem dX1_moveVisit_37 : decode cX1_moveVisit 37 = .ok (.bipush 10, 2) := by decide +kernel
theorem dX1_moveVisit_39 : decode cX1_moveVisit 39 = .ok (.isub, 1) := by decide +kernel
theorem dX1_moveVisit_40 : decode cX1_moveVisit 40 = .ok (.bipush 10, 2) := by decide +kernel
theorem dX1_moveVisit_42 : decode cX1_moveVisit 42 = .ok (.invokestatic 76, 3) := by decide +kernel
theorem dX1_moveVisit_45 : decode cX1_moveVisit 45 = .ok (.ifCond .eq 12, 3) := by decide +kernel
theorem dX1_moveVisit_48 : decode cX1_moveVisit 48 = .ok (.aload_n 0, 1) := by decide +kernel
theorem dX1_moveVisit_49 : decode cX1_moveVisit 49 = .ok (.iload_n 2, 1) := by decide +kernel
theorem dX1_moveVisit_50 : decode cX1_moveVisit 50 = .ok (.iload_n 1, 1) := by decide +kernel
theorem dX1_moveVisit_51 : decode cX1_moveVisit 51 = .ok (.bipush 10, 2) := by decide +kernel
theorem dX1_moveVisit_53 : decode cX1_moveVisit 53 = .ok (.isub, 1) := by decide +kernel
theorem dX1_moveVisit_54 : decode cX1_moveVisit 54 = .ok (.invokevirtual 79, 3) := by decide +kernel
theorem dX1_moveVisit_57 : decode cX1_moveVisit 57 = .ok (.return_, 1) := by decide +kernel
theorem dX2_init_0 : decode cX2_init 0 = .ok (.aload_n 0, 1) := by decide +kernel
theorem dX2_init_1 : decode cX2_init 1 = .ok (.invokespecial 3, 3) := by decide +kernel
theorem dX2_init_4 : decode cX2_init 4 = .ok (.aload_n 0, 1) := by decide +kernel
theorem dX2_init_5 : decode cX2_init 5 = .ok (.bipush 6, 2) := by decide +kernel
theorem dX2_init_7 : decode cX2_init 7 = .ok (.newarray .int, 2) := by decide +kernel
theorem dX2_init_9 : decode cX2_init 9 = .ok (.putfield 11, 3) := by decide +kernel
theorem dX2_init_12 : decode cX2_init 12 = .ok (.aload_n 0, 1) := by decide +kernel
theorem dX2_init_13 : decode cX2_init 13 = .ok (.bipush 6, 2) := by decide +kernel
theorem dX2_init_15 : decode cX2_init 15 = .ok (.newarray .int, 2) := by decide +kernel
theorem dX2_init_17 : decode cX2_init 17 = .ok (.putfield 15, 3) := by decide +kernel
theorem dX2_init_20 : decode cX2_init 20 = .ok (.aload_n 0, 1) := by decide +kernel
theorem dX2_init_21 : decode cX2_init 21 = .ok (.iconst 0, 1) := by decide +kernel
theorem dX2_init_22 : decode cX2_init 22 = .ok (.putfield 18, 3) := by decide +kernel
end
section
theorem dX2_init_25 : decode cX2_init 25 = .ok (.getstatic 22, 3) := by decide +kernel
theorem dX2_init_28 : decode cX2_init 28 = .ok (.iconst 0, 1) := by decide +kernel
theorem dX2_init_29 : decode cX2_init 29 = .ok (.aload_n 0, 1) := by decide +kernel
theorem dX2_init_30 : decode cX2_init 30 = .ok (.getfield 11, 3) := by decide +kernel
theorem dX2_init_33 : decode cX2_init 33 = .ok (.iconst 0, 1) := by decide +kernel
theorem dX2_init_34 : decode cX2_init 34 = .ok (.bipush 6, 2) := by decide +kernel
theorem dX2_init_36 : decode cX2_init 36 = .ok (.invokestatic 25, 3) := by decide +kernel
theorem dX2_init_39 : decode cX2_init 39 = .ok (.return_, 1) := by decide +kernel
set_option maxRecDepth 20000 in
theorem ggX2_number_X5_isBelow : GoodIn wsX2_number wsX5_isBelow := goodIn_r _ [4] (by decide +kernel) (by decide +kernel)
set_option maxRecDepth 20000 in
theorem gX2_number_X5_isBelow_n31 : GoodIn wsX2_number (wsX5_isBelow) := ggX2_number_X5_isBelow
theorem dX2_number_0 : decode cX2_number 0 = .ok (.iload_n 1, 1) := by decide +kernel
theorem dX2_number_1 : decode cX2_number 1 = .ok (.bipush 6, 2) := by decide +kernel
theorem dX2_number_3 : decode cX2_number 3 = .ok (.invokestatic 31, 3) := by decide +kernel
theorem dX2_number_6 : decode cX2_number 6 = .ok (.ifCond .eq 12, 3) := by decide +kernel
theorem dX2_number_9 : decode cX2_number 9 = .ok (.aload_n 0, 1) := by decide +kernel
theorem dX2_number_10 : decode cX2_number 10 = .ok (.getfield 11, 3) := by decide +kernel
theorem dX2_number_13 : decode cX2_number 13 = .ok (.iload_n 1, 1) := by decide +kernel
theorem dX2_number_14 : decode cX2_number 14 = .ok (.iaload, 1) := by decide +kernel
theorem dX2_number_15 : decode cX2_number 15 = .ok (.goto 4, 3) := by decide +kernel
theorem dX2_number_18 : decode cX2_number 18 = .ok (.iconst (-1), 1) := by decide +kernel
theorem dX2_number_19 : decode cX2_number 19 = .ok (.ireturn, 1) := by decide +kernel
set_option maxRecDepth 20000 in
theorem ggX2_read_X3_size : GoodIn wsX2_read wsX3_size := goodIn_r _ [13, 14, 137, 138] (by decide +kernel) (by decide +kernel)
set_option maxRecDepth 20000 in
theorem gX2_read_X3_size : GoodIn wsX2_read (wsV RX2 35 RX3 yX3_size wsX3_size) := goodIn_app (goodIn_of _ (by decide +kernel)) ggX2_read_X3_size
set_option maxRecDepth 20000 in
theorem ggX2_read_X2_readClause : GoodIn wsX2_read wsX2_readClause := goodIn_r _ [19, 7, 20, 21, 2, 22, 23, 24, 12, 25, 14, 26, 27, 28, 29, 30, 31, 18, 32, 33, 34, 35, 36, 37, 38, 39, 40, 41, 42, 43, 44, 45, 46, 47, 48, 49, 50, 51, 52, 53, 54, 55, 56, 57, 58, 59, 60, 61, 62, 63, 64, 65, 66, 67, 68, 69, 70, 71, 72, 73, 74, 75, 76, 77, 78, 79, 80, 81, 82, 83, 84, 85, 86, 87, 88, 89, 90, 91, 92, 93, 94, 95, 96, 97, 98, 99, 100, 101, 102, 103, 104, 105, 106, 107, 108, 109, 110, 111, 112, 113, 114, 115, 116, 117, 118, 119, 120, 121, 122, 123, 124, 125, 126, 127, 128, 129, 130, 131, 132, 133, 134, 135, 136, 137, 138] (by decide +kernel) (by decide +kernel)
set_option maxRecDepth 20000 in
theorem gX2_read_X2_readClause : GoodIn wsX2_read (wsV RX2 41 RX2 yX2_readClause wsX2_readClause) := goodIn_app (goodIn_of _ (by decide +kernel)) ggX2_read_X2_readClause
set_option maxRecDepth 20000 in
theorem ggX2_read_X3_at : GoodIn wsX2_read wsX3_at := goodIn_r _ [25, 14, 26, 27, 28, 29, 137, 138] (by decide +kernel) (by decide +kernel)
set_option maxRecDepth 20000 in
theorem gX2_read_X3_at : GoodIn wsX2_read (wsV RX2 45 RX3 yX3_at wsX3_at) := goodIn_app (goodIn_of _ (by decide +kernel)) ggX2_read_X3_at
set_option maxRecDepth 20000 in
theorem ggX2_read_X2_faultAt : GoodIn wsX2_read wsX2_faultAt := goodIn_r _ [124] (by decide +kernel) (by decide +kernel)
set_option maxRecDepth 20000 in
theorem gX2_read_X2_faultAt : GoodIn wsX2_read (va_wsS RX2 49 yX2_faultAt wsX2_faultAt) := goodIn_app (goodIn_of _ (by decide +kernel)) ggX2_read_X2_faultAt
theorem dX2_read_0 : decode cX2_read 0 = .ok (.getstatic 22, 3) := by decide +kernel
theorem dX2_read_3 : decode cX2_read 3 = .ok (.iconst 0, 1) := by decide +kernel
theorem dX2_read_4 : decode cX2_read 4 = .ok (.aload_n 0, 1) := by decide +kernel
theorem dX2_read_5 : decode cX2_read 5 = .ok (.getfield 15, 3) := by decide +kernel
theorem dX2_read_8 : decode cX2_read 8 = .ok (.iconst 0, 1) := by decide +kernel
theorem dX2_read_9 : decode cX2_read 9 = .ok (.bipush 6, 2) := by decide +kernel
theorem dX2_read_11 : decode cX2_read 11 = .ok (.invokestatic 25, 3) := by decide +kernel
theorem dX2_read_14 : decode cX2_read 14 = .ok (.aload_n 0, 1) := by decide +kernel
theorem dX2_read_15 : decode cX2_read 15 = .ok (.iconst 0, 1) := by decide +kernel
theorem dX2_read_16 : decode cX2_read 16 = .ok (.putfield 18, 3) := by decide +kernel
theorem dX2_read_19 : decode cX2_read 19 = .ok (.iconst 0, 1) := by decide +kernel
theorem dX2_read_20 : decode cX2_read 20 = .ok (.istore_n 2, 1) := by decide +kernel
theorem dX2_read_21 : decode cX2_read 21 = .ok (.iload_n 2, 1) := by decide +kernel
theorem dX2_read_22 : decode cX2_read 22 = .ok (.aload_n 1, 1) := by decide +kernel
theorem dX2_read_23 : decode cX2_read 23 = .ok (.invokevirtual 35, 3) := by decide +kernel
theorem dX2_read_26 : decode cX2_read 26 = .ok (.if_icmp .gt 82, 3) := by decide +kernel
theorem dX2_read_29 : decode cX2_read 29 = .ok (.aload_n 0, 1) := by decide +kernel
theorem dX2_read_30 : decode cX2_read 30 = .ok (.aload_n 1, 1) := by decide +kernel
theorem dX2_read_31 : decode cX2_read 31 = .ok (.invokevirtual 41, 3) := by decide +kernel
theorem dX2_read_34 : decode cX2_read 34 = .ok (.istore_n 3, 1) := by decide +kernel
theorem dX2_read_35 : decode cX2_read 35 = .ok (.iload_n 3, 1) := by decide +kernel
theorem dX2_read_36 : decode cX2_read 36 = .ok (.ifCond .eq 5, 3) := by decide +kernel
theorem dX2_read_39 : decode cX2_read 39 = .ok (.iload_n 3, 1) := by decide +kernel
theorem dX2_read_40 : decode cX2_read 40 = .ok (.ireturn, 1) := by decide +kernel
theorem dX2_read_41 : decode cX2_read 41 = .ok (.aload_n 1, 1) := by decide +kernel
theorem dX2_read_42 : decode cX2_read 42 = .ok (.aload_n 0, 1) := by decide +kernel
theorem dX2_read_43 : decode cX2_read 43 = .ok (.getfield 18, 3) := by decide +kernel
theorem dX2_read_46 : decode cX2_read 46 = .ok (.invokevirtual 45, 3) := by decide +kernel
theorem dX2_read_49 : decode cX2_read 49 = .ok (.iconst (-1), 1) := by decide +kernel
theorem dX2_read_50 : decode cX2_read 50 = .ok (.if_icmp .ne 20, 3) := by decide +kernel
theorem dX2_read_53 : decode cX2_read 53 = .ok (.aload_n 0, 1) := by decide +kernel
theorem dX2_read_54 : decode cX2_read 54 = .ok (.getfield 15, 3) := by decide +kernel
theorem dX2_read_57 : decode cX2_read 57 = .ok (.iconst 0, 1) := by decide +kernel
theorem dX2_read_58 : decode cX2_read 58 = .ok (.aload_n 0, 1) := by decide +kernel
theorem dX2_read_59 : decode cX2_read 59 = .ok (.getfield 11, 3) := by decide +kernel
theorem dX2_read_62 : decode cX2_read 62 = .ok (.iconst 0, 1) := by decide +kernel
theorem dX2_read_63 : decode cX2_read 63 = .ok (.bipush 6, 2) := by decide +kernel
theorem dX2_read_65 : decode cX2_read 65 = .ok (.invokestatic 25, 3) := by decide +kernel
theorem dX2_read_68 : decode cX2_read 68 = .ok (.iconst 0, 1) := by decide +kernel
theorem dX2_read_69 : decode cX2_read 69 = .ok (.ireturn, 1) := by decide +kernel
theorem dX2_read_70 : decode cX2_read 70 = .ok (.aload_n 1, 1) := by decide +kernel
theorem dX2_read_71 : decode cX2_read 71 = .ok (.aload_n 0, 1) := by decide +kernel
theorem dX2_read_72 : decode cX2_read 72 = .ok (.getfield 18, 3) := by decide +kernel
theorem dX2_read_75 : decode cX2_read 75 = .ok (.invokevirtual 45, 3) := by decide +kernel
theorem dX2_read_78 : decode cX2_read 78 = .ok (.bipush 59, 2) := by decide +kernel
theorem dX2_read_80 : decode cX2_read 80 = .ok (.if_icmp .eq 12, 3) := by decide +kernel
theorem dX2_read_83 : decode cX2_read 83 = .ok (.iconst 5, 1) := by decide +kernel
theorem dX2_read_84 : decode cX2_read 84 = .ok (.aload_n 0, 1) := by decide +kernel
theorem dX2_read_85 : decode cX2_read 85 = .ok (.getfield 18, 3) := by decide +kernel
theorem dX2_read_88 : decode cX2_read 88 = .ok (.invokestatic 49, 3) := by decide +kernel
theorem dX2_read_91 : decode cX2_read 91 = .ok (.ireturn, 1) := by decide +kernel
theorem dX2_read_92 : decode cX2_read 92 = .ok (.aload_n 0, 1) := by decide +kernel
theorem dX2_read_93 : decode cX2_read 93 = .ok (.dup, 1) := by decide +kernel
theorem dX2_read_94 : decode cX2_read 94 = .ok (.getfield 18, 3) := by decide +kernel
theorem dX2_read_97 : decode cX2_read 97 = .ok (.iconst 1, 1) := by decide +kernel
theorem dX2_read_98 : decode cX2_read 98 = .ok (.iadd, 1) := by decide +kernel
theorem dX2_read_99 : decode cX2_read 99 = .ok (.putfield 18, 3) := by decide +kernel
theorem dX2_read_102 : decode cX2_read 102 = .ok (.iinc 2 1, 3) := by decide +kernel
theorem dX2_read_105 : decode cX2_read 105 = .ok (.goto (-84), 3) := by decide +kernel
theorem dX2_read_108 : decode cX2_read 108 = .ok (.iconst 1, 1) := by decide +kernel
theorem dX2_read_109 : decode cX2_read 109 = .ok (.aload_n 0, 1) := by decide +kernel
theorem dX2_read_110 : decode cX2_read 110 = .ok (.getfield 18, 3) := by decide +kernel
theorem dX2_read_113 : decode cX2_read 113 = .ok (.invokestatic 49, 3) := by decide +kernel
theorem dX2_read_116 : decode cX2_read 116 = .ok (.ireturn, 1) := by decide +kernel
set_option maxRecDepth 20000 in
theorem ggX2_readClause_X3_at : GoodIn wsX2_readClause wsX3_at := goodIn_r _ [9, 10, 11, 12, 13, 14, 123, 124] (by decide +kernel) (by decide +kernel)
set_option maxRecDepth 20000 in
theorem gX2_readClause_X3_at : GoodIn wsX2_readClause (wsV RX2 45 RX3 yX3_at wsX3_at) := goodIn_app (goodIn_of _ (by decide +kernel)) ggX2_readClause_X3_at
set_option maxRecDepth 20000 in
theorem ggX2_readClause_X2_kindOf : GoodIn wsX2_readClause wsX2_kindOf := goodIn_r _ [18, 19, 20, 21, 22, 23, 24, 25, 26, 27, 28, 29, 30, 31, 32, 33, 34, 35, 36, 37, 38, 39, 40, 41, 42, 43, 44, 45, 46, 47, 48, 49, 50, 51, 52, 53, 54, 55, 56, 57, 58, 59, 60, 61, 62, 63, 64, 65, 66, 67, 68, 69, 70, 71, 72, 73, 74, 75, 76, 77, 78, 79, 80, 81, 82, 83, 84, 85, 86, 87, 88, 89, 90, 91, 92, 93, 94, 95, 96, 97, 98, 99, 100, 101, 102, 103, 104, 105, 106, 107] (by decide +kernel) (by decide +kernel)
set_option maxRecDepth 20000 in
theorem gX2_readClause_X2_kindOf : GoodIn wsX2_readClause (va_wsS RX2 53 yX2_kindOf wsX2_kindOf) := goodIn_app (goodIn_of _ (by decide +kernel)) ggX2_readClause_X2_kindOf
set_option maxRecDepth 20000 in
theorem ggX2_readClause_X5_isBelow : GoodIn wsX2_readClause wsX5_isBelow := goodIn_r _ [14] (by decide +kernel) (by decide +kernel)
set_option maxRecDepth 20000 in
theorem gX2_readClause_X5_isBelow_n31 : GoodIn wsX2_readClause (wsX5_isBelow) := ggX2_readClause_X5_isBelow
set_option maxRecDepth 20000 in
theorem ggX2_readClause_X2_faultAt : GoodIn wsX2_readClause wsX2_faultAt := goodIn_r _ [110] (by decide +kernel) (by decide +kernel)
set_option maxRecDepth 20000 in
theorem gX2_readClause_X2_faultAt : GoodIn wsX2_readClause (va_wsS RX2 49 yX2_faultAt wsX2_faultAt) := goodIn_app (goodIn_of _ (by decide +kernel)) ggX2_readClause_X2_faultAt
set_option maxRecDepth 20000 in
theorem ggX2_readClause_X3_hasDigitAt : GoodIn wsX2_readClause wsX3_hasDigitAt := goodIn_r _ [114, 115, 6, 7, 8, 9, 10, 11, 12, 13, 14, 123, 124] (by decide +kernel) (by decide +kernel)
set_option maxRecDepth 20000 in
theorem gX2_readClause_X3_hasDigitAt : GoodIn wsX2_readClause (wsV RX2 56 RX3 yX3_hasDigitAt wsX3_hasDigitAt) := goodIn_app (goodIn_of _ (by decide +kernel)) ggX2_readClause_X3_hasDigitAt
set_option maxRecDepth 20000 in
theorem ggX2_readClause_X2_readDigits : GoodIn wsX2_readClause wsX2_readDigits := goodIn_r _ [119, 1, 111, 112, 113, 8, 114, 115, 6, 7, 9, 10, 11, 12, 13, 14, 5, 120, 121, 122, 123, 124] (by decide +kernel) (by decide +kernel)
set_option maxRecDepth 20000 in
theorem gX2_readClause_X2_readDigits : GoodIn wsX2_readClause (wsV RX2 60 RX2 yX2_readDigits wsX2_readDigits) := goodIn_app (goodIn_of _ (by decide +kernel)) ggX2_readClause_X2_readDigits
theorem dX2_readClause_0 : decode cX2_readClause 0 = .ok (.aload_n 1, 1) := by decide +kernel
theorem dX2_readClause_1 : decode cX2_readClause 1 = .ok (.aload_n 0, 1) := by decide +kernel
theorem dX2_readClause_2 : decode cX2_readClause 2 = .ok (.getfield 18, 3) := by decide +kernel
theorem dX2_readClause_5 : decode cX2_readClause 5 = .ok (.invokevirtual 45, 3) := by decide +kernel
theorem dX2_readClause_8 : decode cX2_readClause 8 = .ok (.invokestatic 53, 3) := by decide +kernel
theorem dX2_readClause_11 : decode cX2_readClause 11 = .ok (.istore_n 2, 1) := by decide +kernel
theorem dX2_readClause_12 : decode cX2_readClause 12 = .ok (.iload_n 2, 1) := by decide +kernel
theorem dX2_readClause_13 : decode cX2_readClause 13 = .ok (.bipush 6, 2) := by decide +kernel
theorem dX2_readClause_15 : decode cX2_readClause 15 = .ok (.invokestatic 31, 3) := by decide +kernel
theorem dX2_readClause_18 : decode cX2_readClause 18 = .ok (.ifCond .ne 12, 3) := by decide +kernel
theorem dX2_readClause_21 : decode cX2_readClause 21 = .ok (.iconst 1, 1) := by decide +kernel
theorem dX2_readClause_22 : decode cX2_readClause 22 = .ok (.aload_n 0, 1) := by decide +kernel
theorem dX2_readClause_23 : decode cX2_readClause 23 = .ok (.getfield 18, 3) := by decide +kernel
theorem dX2_readClause_26 : decode cX2_readClause 26 = .ok (.invokestatic 49, 3) := by decide +kernel
theorem dX2_readClause_29 : decode cX2_readClause 29 = .ok (.ireturn, 1) := by decide +kernel
theorem dX2_readClause_30 : decode cX2_readClause 30 = .ok (.aload_n 0, 1) := by decide +kernel
theorem dX2_readClause_31 : decode cX2_readClause 31 = .ok (.dup, 1) := by decide +kernel
theorem dX2_readClause_32 : decode cX2_readClause 32 = .ok (.getfield 18, 3) := by decide +kernel
theorem dX2_readClause_35 : decode cX2_readClause 35 = .ok (.iconst 1, 1) := by decide +kernel
theorem dX2_readClause_36 : decode cX2_readClause 36 = .ok (.iadd, 1) := by decide +kernel
theorem dX2_readClause_37 : decode cX2_readClause 37 = .ok (.putfield 18, 3) := by decide +kernel
theorem dX2_readClause_40 : decode cX2_readClause 40 = .ok (.aload_n 0, 1) := by decide +kernel
theorem dX2_readClause_41 : decode cX2_readClause 41 = .ok (.getfield 18, 3) := by decide +kernel
theorem dX2_readClause_44 : decode cX2_readClause 44 = .ok (.istore_n 3, 1) := by decide +kernel
theorem dX2_readClause_45 : decode cX2_readClause 45 = .ok (.aload_n 1, 1) := by decide +kernel
theorem dX2_readClause_46 : decode cX2_readClause 46 = .ok (.iload_n 3, 1) := by decide +kernel
theorem dX2_readClause_47 : decode cX2_readClause 47 = .ok (.invokevirtual 56, 3) := by decide +kernel
theorem dX2_readClause_50 : decode cX2_readClause 50 = .ok (.ifCond .ne 9, 3) := by decide +kernel
theorem dX2_readClause_53 : decode cX2_readClause 53 = .ok (.iconst 2, 1) := by decide +kernel
theorem dX2_readClause_54 : decode cX2_readClause 54 = .ok (.iload_n 3, 1) := by decide +kernel
theorem dX2_readClause_55 : decode cX2_readClause 55 = .ok (.invokestatic 49, 3) := by decide +kernel
theorem dX2_readClause_58 : decode cX2_readClause 58 = .ok (.ireturn, 1) := by decide +kernel
theorem dX2_readClause_59 : decode cX2_readClause 59 = .ok (.aload_n 0, 1) := by decide +kernel
theorem dX2_readClause_60 : decode cX2_readClause 60 = .ok (.aload_n 1, 1) := by decide +kernel
theorem dX2_readClause_61 : decode cX2_readClause 61 = .ok (.invokevirtual 60, 3) := by decide +kernel
theorem dX2_readClause_64 : decode cX2_readClause 64 = .ok (.istore 4, 2) := by decide +kernel
theorem dX2_readClause_66 : decode cX2_readClause 66 = .ok (.aload_n 1, 1) := by decide +kernel
theorem dX2_readClause_67 : decode cX2_readClause 67 = .ok (.aload_n 0, 1) := by decide +kernel
theorem dX2_readClause_68 : decode cX2_readClause 68 = .ok (.getfield 18, 3) := by decide +kernel
theorem dX2_readClause_71 : decode cX2_readClause 71 = .ok (.invokevirtual 56, 3) := by decide +kernel
theorem dX2_readClause_74 : decode cX2_readClause 74 = .ok (.ifCond .eq 12, 3) := by decide +kernel
theorem dX2_readClause_77 : decode cX2_readClause 77 = .ok (.iconst 3, 1) := by decide +kernel
theorem dX2_readClause_78 : decode cX2_readClause 78 = .ok (.aload_n 0, 1) := by decide +kernel
theorem dX2_readClause_79 : decode cX2_readClause 79 = .ok (.getfield 18, 3) := by decide +kernel
theorem dX2_readClause_82 : decode cX2_readClause 82 = .ok (.invokestatic 49, 3) := by decide +kernel
theorem dX2_readClause_85 : decode cX2_readClause 85 = .ok (.ireturn, 1) := by decide +kernel
theorem dX2_readClause_86 : decode cX2_readClause 86 = .ok (.iload 4, 2) := by decide +kernel
theorem dX2_readClause_88 : decode cX2_readClause 88 = .ok (.getstatic 63, 3) := by decide +kernel
theorem dX2_readClause_91 : decode cX2_readClause 91 = .ok (.iload_n 2, 1) := by decide +kernel
theorem dX2_readClause_92 : decode cX2_readClause 92 = .ok (.iaload, 1) := by decide +kernel
theorem dX2_readClause_93 : decode cX2_readClause 93 = .ok (.if_icmp .lt 13, 3) := by decide +kernel
theorem dX2_readClause_96 : decode cX2_readClause 96 = .ok (.iload 4, 2) := by decide +kernel
theorem dX2_readClause_98 : decode cX2_readClause 98 = .ok (.getstatic 66, 3) := by decide +kernel
theorem dX2_readClause_101 : decode cX2_readClause 101 = .ok (.iload_n 2, 1) := by decide +kernel
theorem dX2_readClause_102 : decode cX2_readClause 102 = .ok (.iaload, 1) := by decide +kernel
theorem dX2_readClause_103 : decode cX2_readClause 103 = .ok (.if_icmp .le 9, 3) := by decide +kernel
theorem dX2_readClause_106 : decode cX2_readClause 106 = .ok (.iconst 4, 1) := by decide +kernel
theorem dX2_readClause_107 : decode cX2_readClause 107 = .ok (.iload_n 3, 1) := by decide +kernel
theorem dX2_readClause_108 : decode cX2_readClause 108 = .ok (.invokestatic 49, 3) := by decide +kernel
theorem dX2_readClause_111 : decode cX2_readClause 111 = .ok (.ireturn, 1) := by decide +kernel
theorem dX2_readClause_112 : decode cX2_readClause 112 = .ok (.aload_n 0, 1) := by decide +kernel
theorem dX2_readClause_113 : decode cX2_readClause 113 = .ok (.getfield 15, 3) := by decide +kernel
theorem dX2_readClause_116 : decode cX2_readClause 116 = .ok (.iload_n 2, 1) := by decide +kernel
theorem dX2_readClause_117 : decode cX2_readClause 117 = .ok (.iload 4, 2) := by decide +kernel
theorem dX2_readClause_119 : decode cX2_readClause 119 = .ok (.iastore, 1) := by decide +kernel
theorem dX2_readClause_120 : decode cX2_readClause 120 = .ok (.iconst 0, 1) := by decide +kernel
theorem dX2_readClause_121 : decode cX2_readClause 121 = .ok (.ireturn, 1) := by decide +kernel
set_option maxRecDepth 20000 in
theorem ggX2_readDigits_X3_hasDigitAt : GoodIn wsX2_readDigits wsX3_hasDigitAt := goodIn_r _ [6, 7, 8, 9, 5, 10, 11, 12, 13, 14, 15, 20, 21] (by decide +kernel) (by decide +kernel)
set_option maxRecDepth 20000 in
theorem gX2_readDigits_X3_hasDigitAt : GoodIn wsX2_readDigits (wsV RX2 56 RX3 yX3_hasDigitAt wsX3_hasDigitAt) := goodIn_app (goodIn_of _ (by decide +kernel)) ggX2_readDigits_X3_hasDigitAt
set_option maxRecDepth 20000 in
theorem ggX2_readDigits_X3_at : GoodIn wsX2_readDigits wsX3_at := goodIn_r _ [10, 11, 12, 13, 14, 15, 20, 21] (by decide +kernel) (by decide +kernel)
set_option maxRecDepth 20000 in
theorem gX2_readDigits_X3_at : GoodIn wsX2_readDigits (wsV RX2 45 RX3 yX3_at wsX3_at) := goodIn_app (goodIn_of _ (by decide +kernel)) ggX2_readDigits_X3_at
theorem dX2_readDigits_0 : decode cX2_readDigits 0 = .ok (.iconst 0, 1) := by decide +kernel
theorem dX2_readDigits_1 : decode cX2_readDigits 1 = .ok (.istore_n 2, 1) := by decide +kernel
theorem dX2_readDigits_2 : decode cX2_readDigits 2 = .ok (.iconst 0, 1) := by decide +kernel
theorem dX2_readDigits_3 : decode cX2_readDigits 3 = .ok (.istore_n 3, 1) := by decide +kernel
theorem dX2_readDigits_4 : decode cX2_readDigits 4 = .ok (.iload_n 3, 1) := by decide +kernel
theorem dX2_readDigits_5 : decode cX2_readDigits 5 = .ok (.iconst 4, 1) := by decide +kernel
theorem dX2_readDigits_6 : decode cX2_readDigits 6 = .ok (.if_icmp .ge 47, 3) := by decide +kernel
theorem dX2_readDigits_9 : decode cX2_readDigits 9 = .ok (.aload_n 1, 1) := by decide +kernel
theorem dX2_readDigits_10 : decode cX2_readDigits 10 = .ok (.aload_n 0, 1) := by decide +kernel
theorem dX2_readDigits_11 : decode cX2_readDigits 11 = .ok (.getfield 18, 3) := by decide +kernel
theorem dX2_readDigits_14 : decode cX2_readDigits 14 = .ok (.invokevirtual 56, 3) := by decide +kernel
theorem dX2_readDigits_17 : decode cX2_readDigits 17 = .ok (.ifCond .eq 36, 3) := by decide +kernel
theorem dX2_readDigits_20 : decode cX2_readDigits 20 = .ok (.iload_n 2, 1) := by decide +kernel
theorem dX2_readDigits_21 : decode cX2_readDigits 21 = .ok (.bipush 10, 2) := by decide +kernel
theorem dX2_readDigits_23 : decode cX2_readDigits 23 = .ok (.imul, 1) := by decide +kernel
theorem dX2_readDigits_24 : decode cX2_readDigits 24 = .ok (.aload_n 1, 1) := by decide +kernel
theorem dX2_readDigits_25 : decode cX2_readDigits 25 = .ok (.aload_n 0, 1) := by decide +kernel
theorem dX2_readDigits_26 : decode cX2_readDigits 26 = .ok (.getfield 18, 3) := by decide +kernel
theorem dX2_readDigits_29 : decode cX2_readDigits 29 = .ok (.invokevirtual 45, 3) := by decide +kernel
theorem dX2_readDigits_32 : decode cX2_readDigits 32 = .ok (.iadd, 1) := by decide +kernel
theorem dX2_readDigits_33 : decode cX2_readDigits 33 = .ok (.bipush 48, 2) := by decide +kernel
theorem dX2_readDigits_35 : decode cX2_readDigits 35 = .ok (.isub, 1) := by decide +kernel
theorem dX2_readDigits_36 : decode cX2_readDigits 36 = .ok (.istore_n 2, 1) := by decide +kernel
theorem dX2_readDigits_37 : decode cX2_readDigits 37 = .ok (.aload_n 0, 1) := by decide +kernel
theorem dX2_readDigits_38 : decode cX2_readDigits 38 = .ok (.dup, 1) := by decide +kernel
theorem dX2_readDigits_39 : decode cX2_readDigits 39 = .ok (.getfield 18, 3) := by decide +kernel
theorem dX2_readDigits_42 : decode cX2_readDigits 42 = .ok (.iconst 1, 1) := by decide +kernel
theorem dX2_readDigits_43 : decode cX2_readDigits 43 = .ok (.iadd, 1) := by decide +kernel
theorem dX2_readDigits_44 : decode cX2_readDigits 44 = .ok (.putfield 18, 3) := by decide +kernel
theorem dX2_readDigits_47 : decode cX2_readDigits 47 = .ok (.iinc 3 1, 3) := by decide +kernel
theorem dX2_readDigits_50 : decode cX2_readDigits 50 = .ok (.goto (-46), 3) := by decide +kernel
theorem dX2_readDigits_53 : decode cX2_readDigits 53 = .ok (.iload_n 2, 1) := by decide +kernel
theorem dX2_readDigits_54 : decode cX2_readDigits 54 = .ok (.ireturn, 1) := by decide +kernel
set_option maxRecDepth 20000 in
theorem ggX2_kindOf_J0_indexOf_0f7a4 : GoodIn wsX2_kindOf wsJ0_indexOf_0f7a4 := goodIn_r _ [5, 6, 7, 8, 4, 9, 10, 11, 12, 13, 14, 15, 16, 17, 18, 19, 20, 21, 22, 23, 24, 25, 26, 27, 28, 29, 30, 31, 32, 33, 34, 35, 36, 37, 38, 39, 40, 41, 42, 43, 44, 45, 46, 47, 48, 49, 50, 51, 52, 53, 54, 55, 56, 57, 58, 59, 60, 61, 62, 63, 64, 65, 66, 67, 68, 69, 70, 71, 72, 73, 74, 75, 76, 77, 78, 79, 80, 81, 82, 83, 84, 85, 86, 87, 88, 89] (by decide +kernel) (by decide +kernel)
set_option maxRecDepth 20000 in
theorem gX2_kindOf_J0_indexOf_0f7a4 : GoodIn wsX2_kindOf (wsV RX2 71 RJ0 yJ0_indexOf_0f7a4 wsJ0_indexOf_0f7a4) := goodIn_app (goodIn_of _ (by decide +kernel)) ggX2_kindOf_J0_indexOf_0f7a4
theorem dX2_kindOf_0 : decode cX2_kindOf 0 = .ok (.iload_n 0, 1) := by decide +kernel
theorem dX2_kindOf_1 : decode cX2_kindOf 1 = .ok (.iconst (-1), 1) := by decide +kernel
theorem dX2_kindOf_2 : decode cX2_kindOf 2 = .ok (.if_icmp .ne 7, 3) := by decide +kernel
theorem dX2_kindOf_5 : decode cX2_kindOf 5 = .ok (.iconst (-1), 1) := by decide +kernel
theorem dX2_kindOf_6 : decode cX2_kindOf 6 = .ok (.goto 10, 3) := by decide +kernel
theorem dX2_kindOf_9 : decode cX2_kindOf 9 = .ok (.ldc 69, 2) := by decide +kernel
theorem dX2_kindOf_11 : decode cX2_kindOf 11 = .ok (.iload_n 0, 1) := by decide +kernel
theorem dX2_kindOf_12 : decode cX2_kindOf 12 = .ok (.i2c, 1) := by decide +kernel
theorem dX2_kindOf_13 : decode cX2_kindOf 13 = .ok (.invokevirtual 71, 3) := by decide +kernel
theorem dX2_kindOf_16 : decode cX2_kindOf 16 = .ok (.ireturn, 1) := by decide +kernel
theorem dX2_faultAt_0 : decode cX2_faultAt 0 = .ok (.bipush 100, 2) := by decide +kernel
theorem dX2_faultAt_2 : decode cX2_faultAt 2 = .ok (.iload_n 0, 1) := by decide +kernel
theorem dX2_faultAt_3 : decode cX2_faultAt 3 = .ok (.imul, 1) := by decide +kernel
theorem dX2_faultAt_4 : decode cX2_faultAt 4 = .ok (.iload_n 1, 1) := by decide +kernel
theorem dX2_faultAt_5 : decode cX2_faultAt 5 = .ok (.iadd, 1) := by decide +kernel
theorem dX2_faultAt_6 : decode cX2_faultAt 6 = .ok (.ireturn, 1) := by decide +kernel
theorem dX3_init_0 : decode cX3_init 0 = .ok (.aload_n 0, 1) := by decide +kernel
theorem dX3_init_1 : decode cX3_init 1 = .ok (.invokespecial 1, 3) := by decide +kernel
theorem dX3_init_4 : decode cX3_init 4 = .ok (.aload_n 0, 1) := by decide +kernel
theorem dX3_init_5 : decode cX3_init 5 = .ok (.bipush 60, 2) := by decide +kernel
theorem dX3_init_7 : decode cX3_init 7 = .ok (.newarray .int, 2) := by decide +kernel
theorem dX3_init_9 : decode cX3_init 9 = .ok (.putfield 9, 3) := by decide +kernel
theorem dX3_init_12 : decode cX3_init 12 = .ok (.aload_n 0, 1) := by decide +kernel
theorem dX3_init_13 : decode cX3_init 13 = .ok (.iconst 0, 1) := by decide +kernel
theorem dX3_init_14 : decode cX3_init 14 = .ok (.putfield 13, 3) := by decide +kernel
theorem dX3_init_17 : decode cX3_init 17 = .ok (.return_, 1) := by decide +kernel
theorem dX3_size_0 : decode cX3_size 0 = .ok (.aload_n 0, 1) := by decide +kernel
theorem dX3_size_1 : decode cX3_size 1 = .ok (.getfield 13, 3) := by decide +kernel
theorem dX3_size_4 : decode cX3_size 4 = .ok (.ireturn, 1) := by decide +kernel
theorem dX3_takesFeed_0 : decode cX3_takesFeed 0 = .ok (.aload_n 0, 1) := by decide +kernel
theorem dX3_takesFeed_1 : decode cX3_takesFeed 1 = .ok (.getfield 13, 3) := by decide +kernel
theorem dX3_takesFeed_4 : decode cX3_takesFeed 4 = .ok (.bipush 20, 2) := by decide +kernel
theorem dX3_takesFeed_6 : decode cX3_takesFeed 6 = .ok (.iadd, 1) := by decide +kernel
theorem dX3_takesFeed_7 : decode cX3_takesFeed 7 = .ok (.bipush 60, 2) := by decide +kernel
theorem dX3_takesFeed_9 : decode cX3_takesFeed 9 = .ok (.if_icmp .gt 7, 3) := by decide +kernel
theorem dX3_takesFeed_12 : decode cX3_takesFeed 12 = .ok (.iconst 1, 1) := by decide +kernel
theorem dX3_takesFeed_13 : decode cX3_takesFeed 13 = .ok (.goto 4, 3) := by decide +kernel
theorem dX3_takesFeed_16 : decode cX3_takesFeed 16 = .ok (.iconst 0, 1) := by decide +kernel
theorem dX3_takesFeed_17 : decode cX3_takesFeed 17 = .ok (.ireturn, 1) := by decide +kernel
set_option maxRecDepth 20000 in
theorem ggX3_put_X5_isBelow : GoodIn wsX3_put wsX5_isBelow := goodIn_r _ [5] (by decide +kernel) (by decide +kernel)
set_option maxRecDepth 20000 in
theorem gX3_put_X5_isBelow_n17 : GoodIn wsX3_put (wsX5_isBelow) := ggX3_put_X5_isBelow
theorem dX3_put_0 : decode cX3_put 0 = .ok (.bipush 24, 2) := by decide +kernel
theorem dX3_put_2 : decode cX3_put 2 = .ok (.istore_n 2, 1) := by decide +kernel
theorem dX3_put_3 : decode cX3_put 3 = .ok (.iload_n 2, 1) := by decide +kernel
theorem dX3_put_4 : decode cX3_put 4 = .ok (.ifCond .lt 47, 3) := by decide +kernel
theorem dX3_put_7 : decode cX3_put 7 = .ok (.aload_n 0, 1) := by decide +kernel
theorem dX3_put_8 : decode cX3_put 8 = .ok (.getfield 13, 3) := by decide +kernel
theorem dX3_put_11 : decode cX3_put 11 = .ok (.bipush 60, 2) := by decide +kernel
theorem dX3_put_13 : decode cX3_put 13 = .ok (.invokestatic 17, 3) := by decide +kernel
theorem dX3_put_16 : decode cX3_put 16 = .ok (.ifCond .eq 29, 3) := by decide +kernel
theorem dX3_put_19 : decode cX3_put 19 = .ok (.aload_n 0, 1) := by decide +kernel
theorem dX3_put_20 : decode cX3_put 20 = .ok (.getfield 9, 3) := by decide +kernel
theorem dX3_put_23 : decode cX3_put 23 = .ok (.aload_n 0, 1) := by decide +kernel
theorem dX3_put_24 : decode cX3_put 24 = .ok (.getfield 13, 3) := by decide +kernel
theorem dX3_put_27 : decode cX3_put 27 = .ok (.iload_n 1, 1) := by decide +kernel
theorem dX3_put_28 : decode cX3_put 28 = .ok (.iload_n 2, 1) := by decide +kernel
theorem dX3_put_29 : decode cX3_put 29 = .ok (.iushr, 1) := by decide +kernel
theorem dX3_put_30 : decode cX3_put 30 = .ok (.sipush 255, 3) := by decide +kernel
theorem dX3_put_33 : decode cX3_put 33 = .ok (.iand, 1) := by decide +kernel
theorem dX3_put_34 : decode cX3_put 34 = .ok (.iastore, 1) := by decide +kernel
theorem dX3_put_35 : decode cX3_put 35 = .ok (.aload_n 0, 1) := by decide +kernel
theorem dX3_put_36 : decode cX3_put 36 = .ok (.dup, 1) := by decide +kernel
theorem dX3_put_37 : decode cX3_put 37 = .ok (.getfield 13, 3) := by decide +kernel
theorem dX3_put_40 : decode cX3_put 40 = .ok (.iconst 1, 1) := by decide +kernel
theorem dX3_put_41 : decode cX3_put 41 = .ok (.iadd, 1) := by decide +kernel
theorem dX3_put_42 : decode cX3_put 42 = .ok (.putfield 13, 3) := by decide +kernel
theorem dX3_put_45 : decode cX3_put 45 = .ok (.iinc 2 (-8), 3) := by decide +kernel
theorem dX3_put_48 : decode cX3_put 48 = .ok (.goto (-45), 3) := by decide +kernel
theorem dX3_put_51 : decode cX3_put 51 = .ok (.return_, 1) := by decide +kernel
theorem dX3_cutTo_0 : decode cX3_cutTo 0 = .ok (.iload_n 1, 1) := by decide +kernel
theorem dX3_cutTo_1 : decode cX3_cutTo 1 = .ok (.ifCond .lt 16, 3) := by decide +kernel
theorem dX3_cutTo_4 : decode cX3_cutTo 4 = .ok (.iload_n 1, 1) := by decide +kernel
theorem dX3_cutTo_5 : decode cX3_cutTo 5 = .ok (.aload_n 0, 1) := by decide +kernel
theorem dX3_cutTo_6 : decode cX3_cutTo 6 = .ok (.getfield 13, 3) := by decide +kernel
theorem dX3_cutTo_9 : decode cX3_cutTo 9 = .ok (.if_icmp .ge 8, 3) := by decide +kernel
theorem dX3_cutTo_12 : decode cX3_cutTo 12 = .ok (.aload_n 0, 1) := by decide +kernel
theorem dX3_cutTo_13 : decode cX3_cutTo 13 = .ok (.iload_n 1, 1) := by decide +kernel
theorem dX3_cutTo_14 : decode cX3_cutTo 14 = .ok (.putfield 13, 3) := by decide +kernel
theorem dX3_cutTo_17 : decode cX3_cutTo 17 = .ok (.return_, 1) := by decide +kernel
set_option maxRecDepth 20000 in
theorem ggX3_at_X5_isBelow : GoodIn wsX3_at wsX5_isBelow := goodIn_r _ [5] (by decide +kernel) (by decide +kernel)
set_option maxRecDepth 20000 in
theorem gX3_at_X5_isBelow_n17 : GoodIn wsX3_at (wsX5_isBelow) := ggX3_at_X5_isBelow
theorem dX3_at_0 : decode cX3_at 0 = .ok (.iload_n 1, 1) := by decide +kernel
theorem dX3_at_1 : decode cX3_at 1 = .ok (.aload_n 0, 1) := by decide +kernel
theorem dX3_at_2 : decode cX3_at 2 = .ok (.getfield 13, 3) := by decide +kernel
theorem dX3_at_5 : decode cX3_at 5 = .ok (.invokestatic 17, 3) := by decide +kernel
theorem dX3_at_8 : decode cX3_at 8 = .ok (.ifCond .eq 12, 3) := by decide +kernel
theorem dX3_at_11 : decode cX3_at 11 = .ok (.aload_n 0, 1) := by decide +kernel
theorem dX3_at_12 : decode cX3_at 12 = .ok (.getfield 9, 3) := by decide +kernel
theorem dX3_at_15 : decode cX3_at 15 = .ok (.iload_n 1, 1) := by decide +kernel
theorem dX3_at_16 : decode cX3_at 16 = .ok (.iaload, 1) := by decide +kernel
theorem dX3_at_17 : decode cX3_at 17 = .ok (.goto 4, 3) := by decide +kernel
theorem dX3_at_20 : decode cX3_at 20 = .ok (.iconst (-1), 1) := by decide +kernel
theorem dX3_at_21 : decode cX3_at 21 = .ok (.ireturn, 1) := by decide +kernel
set_option maxRecDepth 20000 in
theorem ggX3_hasDigitAt_X3_at : GoodIn wsX3_hasDigitAt wsX3_at := goodIn_r _ [5, 6, 7, 8, 9, 10, 11, 12] (by decide +kernel) (by decide +kernel)
set_option maxRecDepth 20000 in
theorem gX3_hasDigitAt_X3_at : GoodIn wsX3_hasDigitAt (wsV RX3 23 RX3 yX3_at wsX3_at) := goodIn_app (goodIn_of _ (by decide +kernel)) ggX3_hasDigitAt_X3_at
theorem dX3_hasDigitAt_0 : decode cX3_hasDigitAt 0 = .ok (.aload_n 0, 1) := by decide +kernel
theorem dX3_hasDigitAt_1 : decode cX3_hasDigitAt 1 = .ok (.iload_n 1, 1) := by decide +kernel
theorem dX3_hasDigitAt_2 : decode cX3_hasDigitAt 2 = .ok (.invokevirtual 23, 3) := by decide +kernel
theorem dX3_hasDigitAt_5 : decode cX3_hasDigitAt 5 = .ok (.bipush 48, 2) := by decide +kernel
theorem dX3_hasDigitAt_7 : decode cX3_hasDigitAt 7 = .ok (.if_icmp .lt 17, 3) := by decide +kernel
theorem dX3_hasDigitAt_10 : decode cX3_hasDigitAt 10 = .ok (.aload_n 0, 1) := by decide +kernel
theorem dX3_hasDigitAt_11 : decode cX3_hasDigitAt 11 = .ok (.iload_n 1, 1) := by decide +kernel
theorem dX3_hasDigitAt_12 : decode cX3_hasDigitAt 12 = .ok (.invokevirtual 23, 3) := by decide +kernel
theorem dX3_hasDigitAt_15 : decode cX3_hasDigitAt 15 = .ok (.bipush 57, 2) := by decide +kernel
theorem dX3_hasDigitAt_17 : decode cX3_hasDigitAt 17 = .ok (.if_icmp .gt 7, 3) := by decide +kernel
theorem dX3_hasDigitAt_20 : decode cX3_hasDigitAt 20 = .ok (.iconst 1, 1) := by decide +kernel
theorem dX3_hasDigitAt_21 : decode cX3_hasDigitAt 21 = .ok (.goto 4, 3) := by decide +kernel
theorem dX3_hasDigitAt_24 : decode cX3_hasDigitAt 24 = .ok (.iconst 0, 1) := by decide +kernel
theorem dX3_hasDigitAt_25 : decode cX3_hasDigitAt 25 = .ok (.ireturn, 1) := by decide +kernel
theorem dX4_init_0 : decode cX4_init 0 = .ok (.aload_n 0, 1) := by decide +kernel
theorem dX4_init_1 : decode cX4_init 1 = .ok (.invokespecial 3, 3) := by decide +kernel
theorem dX4_init_4 : decode cX4_init 4 = .ok (.aload_n 0, 1) := by decide +kernel
theorem dX4_init_5 : decode cX4_init 5 = .ok (.bipush 10, 2) := by decide +kernel
theorem dX4_init_7 : decode cX4_init 7 = .ok (.newarray .int, 2) := by decide +kernel
theorem dX4_init_9 : decode cX4_init 9 = .ok (.putfield 9, 3) := by decide +kernel
theorem dX4_init_12 : decode cX4_init 12 = .ok (.aload_n 0, 1) := by decide +kernel
theorem dX4_init_13 : decode cX4_init 13 = .ok (.bipush 10, 2) := by decide +kernel
theorem dX4_init_15 : decode cX4_init 15 = .ok (.newarray .int, 2) := by decide +kernel
theorem dX4_init_17 : decode cX4_init 17 = .ok (.putfield 15, 3) := by decide +kernel
theorem dX4_init_20 : decode cX4_init 20 = .ok (.aload_n 0, 1) := by decide +kernel
theorem dX4_init_21 : decode cX4_init 21 = .ok (.bipush 10, 2) := by decide +kernel
theorem dX4_init_23 : decode cX4_init 23 = .ok (.bipush 10, 2) := by decide +kernel
theorem dX4_init_25 : decode cX4_init 25 = .ok (.multianewarray 18 2, 4) := by decide +kernel
theorem dX4_init_29 : decode cX4_init 29 = .ok (.putfield 20, 3) := by decide +kernel
theorem dX4_init_32 : decode cX4_init 32 = .ok (.aload_n 0, 1) := by decide +kernel
theorem dX4_init_33 : decode cX4_init 33 = .ok (.iconst 0, 1) := by decide +kernel
theorem dX4_init_34 : decode cX4_init 34 = .ok (.putfield 23, 3) := by decide +kernel
theorem dX4_init_37 : decode cX4_init 37 = .ok (.return_, 1) := by decide +kernel
theorem dX4_areLaid_0 : decode cX4_areLaid 0 = .ok (.aload_n 0, 1) := by decide +kernel
theorem dX4_areLaid_1 : decode cX4_areLaid 1 = .ok (.getfield 23, 3) := by decide +kernel
theorem dX4_areLaid_4 : decode cX4_areLaid 4 = .ok (.ireturn, 1) := by decide +kernel
theorem dX4_setLaid_0 : decode cX4_setLaid 0 = .ok (.aload_n 0, 1) := by decide +kernel
theorem dX4_setLaid_1 : decode cX4_setLaid 1 = .ok (.iconst 1, 1) := by decide +kernel
theorem dX4_setLaid_2 : decode cX4_setLaid 2 = .ok (.putfield 23, 3) := by decide +kernel
theorem dX4_setLaid_5 : decode cX4_setLaid 5 = .ok (.return_, 1) := by decide +kernel
theorem dX4_setVisitors_0 : decode cX4_setVisitors 0 = .ok (.aload_n 0, 1) := by decide +kernel
theorem dX4_setVisitors_1 : decode cX4_setVisitors 1 = .ok (.getfield 9, 3) := by decide +kernel
theorem dX4_setVisitors_4 : decode cX4_setVisitors 4 = .ok (.iload_n 1, 1) := by decide +kernel
theorem dX4_setVisitors_5 : decode cX4_setVisitors 5 = .ok (.iload_n 2, 1) := by decide +kernel
theorem dX4_setVisitors_6 : decode cX4_setVisitors 6 = .ok (.iastore, 1) := by decide +kernel
theorem dX4_setVisitors_7 : decode cX4_setVisitors 7 = .ok (.return_, 1) := by decide +kernel
set_option maxRecDepth 20000 in
theorem ggX4_isVisitor_X5_hasBit : GoodIn wsX4_isVisitor wsX5_hasBit := goodIn_r _ [4] (by decide +kernel) (by decide +kernel)
set_option maxRecDepth 20000 in
theorem gX4_isVisitor_X5_hasBit_n27 : GoodIn wsX4_isVisitor (wsX5_hasBit) := ggX4_isVisitor_X5_hasBit
theorem dX4_isVisitor_0 : decode cX4_isVisitor 0 = .ok (.aload_n 0, 1) := by decide +kernel
theorem dX4_isVisitor_1 : decode cX4_isVisitor 1 = .ok (.getfield 9, 3) := by decide +kernel
theorem dX4_isVisitor_4 : decode cX4_isVisitor 4 = .ok (.iload_n 2, 1) := by decide +kernel
theorem dX4_isVisitor_5 : decode cX4_isVisitor 5 = .ok (.iaload, 1) := by decide +kernel
theorem dX4_isVisitor_6 : decode cX4_isVisitor 6 = .ok (.iload_n 1, 1) := by decide +kernel
theorem dX4_isVisitor_7 : decode cX4_isVisitor 7 = .ok (.invokestatic 27, 3) := by decide +kernel
theorem dX4_isVisitor_10 : decode cX4_isVisitor 10 = .ok (.ireturn, 1) := by decide +kernel
set_option maxRecDepth 20000 in
theorem ggX4_wasVisitor_X5_hasBit : GoodIn wsX4_wasVisitor wsX5_hasBit := goodIn_r _ [4] (by decide +kernel) (by decide +kernel)
set_option maxRecDepth 20000 in
theorem gX4_wasVisitor_X5_hasBit_n27 : GoodIn wsX4_wasVisitor (wsX5_hasBit) := ggX4_wasVisitor_X5_hasBit
theorem dX4_wasVisitor_0 : decode cX4_wasVisitor 0 = .ok (.aload_n 0, 1) := by decide +kernel
theorem dX4_wasVisitor_1 : decode cX4_wasVisitor 1 = .ok (.getfield 15, 3) := by decide +kernel
theorem dX4_wasVisitor_4 : decode cX4_wasVisitor 4 = .ok (.iload_n 2, 1) := by decide +kernel
theorem dX4_wasVisitor_5 : decode cX4_wasVisitor 5 = .ok (.iaload, 1) := by decide +kernel
theorem dX4_wasVisitor_6 : decode cX4_wasVisitor 6 = .ok (.iload_n 1, 1) := by decide +kernel
theorem dX4_wasVisitor_7 : decode cX4_wasVisitor 7 = .ok (.invokestatic 27, 3) := by decide +kernel
theorem dX4_wasVisitor_10 : decode cX4_wasVisitor 10 = .ok (.ireturn, 1) := by decide +kernel
set_option maxRecDepth 20000 in
theorem ggX4_visitorCount_J6_bitCount_0f7a4 : GoodIn wsX4_visitorCount wsJ6_bitCount_0f7a4 := goodIn_r _ [5, 6, 7, 8] (by decide +kernel) (by decide +kernel)
set_option maxRecDepth 20000 in
theorem gX4_visitorCount_J6_bitCount_0f7a4 : GoodIn wsX4_visitorCount (va_wsS RX4 31 yJ6_bitCount_0f7a4 wsJ6_bitCount_0f7a4) := goodIn_app (goodIn_of _ (by decide +kernel)) ggX4_visitorCount_J6_bitCount_0f7a4
theorem dX4_visitorCount_0 : decode cX4_visitorCount 0 = .ok (.aload_n 0, 1) := by decide +kernel
theorem dX4_visitorCount_1 : decode cX4_visitorCount 1 = .ok (.getfield 9, 3) := by decide +kernel
theorem dX4_visitorCount_4 : decode cX4_visitorCount 4 = .ok (.iload_n 1, 1) := by decide +kernel
theorem dX4_visitorCount_5 : decode cX4_visitorCount 5 = .ok (.iaload, 1) := by decide +kernel
theorem dX4_visitorCount_6 : decode cX4_visitorCount 6 = .ok (.invokestatic 31, 3) := by decide +kernel
theorem dX4_visitorCount_9 : decode cX4_visitorCount 9 = .ok (.ireturn, 1) := by decide +kernel
set_option maxRecDepth 20000 in
theorem ggX4_visitsBy_X4_isVisitor : GoodIn wsX4_visitsBy wsX4_isVisitor := goodIn_r _ [5, 6, 7, 8, 9, 12, 13, 14, 15] (by decide +kernel) (by decide +kernel)
set_option maxRecDepth 20000 in
theorem gX4_visitsBy_X4_isVisitor : GoodIn wsX4_visitsBy (wsV RX4 37 RX4 yX4_isVisitor wsX4_isVisitor) := goodIn_app (goodIn_of _ (by decide +kernel)) ggX4_visitsBy_X4_isVisitor
set_option maxRecDepth 20000 in
theorem ggX4_visitsBy_X5_oneIf : GoodIn wsX4_visitsBy wsX5_oneIf := goodIn_r _ [11] (by decide +kernel) (by decide +kernel)
set_option maxRecDepth 20000 in
theorem gX4_visitsBy_X5_oneIf_n40 : GoodIn wsX4_visitsBy (wsX5_oneIf) := ggX4_visitsBy_X5_oneIf
theorem dX4_visitsBy_0 : decode cX4_visitsBy 0 = .ok (.iconst 0, 1) := by decide +kernel
theorem dX4_visitsBy_1 : decode cX4_visitsBy 1 = .ok (.istore_n 2, 1) := by decide +kernel
theorem dX4_visitsBy_2 : decode cX4_visitsBy 2 = .ok (.iconst 0, 1) := by decide +kernel
theorem dX4_visitsBy_3 : decode cX4_visitsBy 3 = .ok (.istore_n 3, 1) := by decide +kernel
theorem dX4_visitsBy_4 : decode cX4_visitsBy 4 = .ok (.iload_n 3, 1) := by decide +kernel
theorem dX4_visitsBy_5 : decode cX4_visitsBy 5 = .ok (.bipush 10, 2) := by decide +kernel
theorem dX4_visitsBy_7 : decode cX4_visitsBy 7 = .ok (.if_icmp .ge 21, 3) := by decide +kernel
theorem dX4_visitsBy_10 : decode cX4_visitsBy 10 = .ok (.iload_n 2, 1) := by decide +kernel
theorem dX4_visitsBy_11 : decode cX4_visitsBy 11 = .ok (.aload_n 0, 1) := by decide +kernel
theorem dX4_visitsBy_12 : decode cX4_visitsBy 12 = .ok (.iload_n 1, 1) := by decide +kernel
theorem dX4_visitsBy_13 : decode cX4_visitsBy 13 = .ok (.iload_n 3, 1) := by decide +kernel
theorem dX4_visitsBy_14 : decode cX4_visitsBy 14 = .ok (.invokevirtual 37, 3) := by decide +kernel
theorem dX4_visitsBy_17 : decode cX4_visitsBy 17 = .ok (.invokestatic 40, 3) := by decide +kernel
theorem dX4_visitsBy_20 : decode cX4_visitsBy 20 = .ok (.iadd, 1) := by decide +kernel
theorem dX4_visitsBy_21 : decode cX4_visitsBy 21 = .ok (.istore_n 2, 1) := by decide +kernel
theorem dX4_visitsBy_22 : decode cX4_visitsBy 22 = .ok (.iinc 3 1, 3) := by decide +kernel
theorem dX4_visitsBy_25 : decode cX4_visitsBy 25 = .ok (.goto (-21), 3) := by decide +kernel
theorem dX4_visitsBy_28 : decode cX4_visitsBy 28 = .ok (.iload_n 2, 1) := by decide +kernel
theorem dX4_visitsBy_29 : decode cX4_visitsBy 29 = .ok (.ireturn, 1) := by decide +kernel
set_option maxRecDepth 20000 in
theorem ggX4_total_X4_visitorCount : GoodIn wsX4_total wsX4_visitorCount := goodIn_r _ [5, 6, 7, 8, 9, 10, 11, 12, 13, 14, 15, 16, 17] (by decide +kernel) (by decide +kernel)
set_option maxRecDepth 20000 in
theorem gX4_total_X4_visitorCount : GoodIn wsX4_total (wsV RX4 44 RX4 yX4_visitorCount wsX4_visitorCount) := goodIn_app (goodIn_of _ (by decide +kernel)) ggX4_total_X4_visitorCount
theorem dX4_total_0 : decode cX4_total 0 = .ok (.iconst 0, 1) := by decide +kernel
theorem dX4_total_1 : decode cX4_total 1 = .ok (.istore_n 1, 1) := by decide +kernel
theorem dX4_total_2 : decode cX4_total 2 = .ok (.iconst 0, 1) := by decide +kernel
theorem dX4_total_3 : decode cX4_total 3 = .ok (.istore_n 2, 1) := by decide +kernel
theorem dX4_total_4 : decode cX4_total 4 = .ok (.iload_n 2, 1) := by decide +kernel
theorem dX4_total_5 : decode cX4_total 5 = .ok (.bipush 10, 2) := by decide +kernel
theorem dX4_total_7 : decode cX4_total 7 = .ok (.if_icmp .ge 17, 3) := by decide +kernel
theorem dX4_total_10 : decode cX4_total 10 = .ok (.iload_n 1, 1) := by decide +kernel
theorem dX4_total_11 : decode cX4_total 11 = .ok (.aload_n 0, 1) := by decide +kernel
theorem dX4_total_12 : decode cX4_total 12 = .ok (.iload_n 2, 1) := by decide +kernel
theorem dX4_total_13 : decode cX4_total 13 = .ok (.invokevirtual 44, 3) := by decide +kernel
theorem dX4_total_16 : decode cX4_total 16 = .ok (.iadd, 1) := by decide +kernel
theorem dX4_total_17 : decode cX4_total 17 = .ok (.istore_n 1, 1) := by decide +kernel
theorem dX4_total_18 : decode cX4_total 18 = .ok (.iinc 2 1, 3) := by decide +kernel
theorem dX4_total_21 : decode cX4_total 21 = .ok (.goto (-17), 3) := by decide +kernel
theorem dX4_total_24 : decode cX4_total 24 = .ok (.iload_n 1, 1) := by decide +kernel
theorem dX4_total_25 : decode cX4_total 25 = .ok (.ireturn, 1) := by decide +kernel
set_option maxRecDepth 20000 in
theorem ggX4_visitorAt_X4_isVisitor : GoodIn wsX4_visitorAt wsX4_isVisitor := goodIn_r _ [5, 6, 7, 8, 9, 10, 11, 12, 13] (by decide +kernel) (by decide +kernel)
set_option maxRecDepth 20000 in
theorem gX4_visitorAt_X4_isVisitor : GoodIn wsX4_visitorAt (wsV RX4 37 RX4 yX4_isVisitor wsX4_isVisitor) := goodIn_app (goodIn_of _ (by decide +kernel)) ggX4_visitorAt_X4_isVisitor
theorem dX4_visitorAt_0 : decode cX4_visitorAt 0 = .ok (.iconst 0, 1) := by decide +kernel
theorem dX4_visitorAt_1 : decode cX4_visitorAt 1 = .ok (.istore_n 3, 1) := by decide +kernel
theorem dX4_visitorAt_2 : decode cX4_visitorAt 2 = .ok (.iconst 0, 1) := by decide +kernel
theorem dX4_visitorAt_3 : decode cX4_visitorAt 3 = .ok (.istore 4, 2) := by decide +kernel
theorem dX4_visitorAt_5 : decode cX4_visitorAt 5 = .ok (.iload 4, 2) := by decide +kernel
theorem dX4_visitorAt_7 : decode cX4_visitorAt 7 = .ok (.bipush 10, 2) := by decide +kernel
theorem dX4_visitorAt_9 : decode cX4_visitorAt 9 = .ok (.if_icmp .ge 30, 3) := by decide +kernel
theorem dX4_visitorAt_12 : decode cX4_visitorAt 12 = .ok (.aload_n 0, 1) := by decide +kernel
theorem dX4_visitorAt_13 : decode cX4_visitorAt 13 = .ok (.iload 4, 2) := by decide +kernel
theorem dX4_visitorAt_15 : decode cX4_visitorAt 15 = .ok (.iload_n 1, 1) := by decide +kernel
theorem dX4_visitorAt_16 : decode cX4_visitorAt 16 = .ok (.invokevirtual 37, 3) := by decide +kernel
theorem dX4_visitorAt_19 : decode cX4_visitorAt 19 = .ok (.ifCond .eq 14, 3) := by decide +kernel
theorem dX4_visitorAt_22 : decode cX4_visitorAt 22 = .ok (.iload_n 3, 1) := by decide +kernel
theorem dX4_visitorAt_23 : decode cX4_visitorAt 23 = .ok (.iload_n 2, 1) := by decide +kernel
theorem dX4_visitorAt_24 : decode cX4_visitorAt 24 = .ok (.if_icmp .ne 6, 3) := by decide +kernel
theorem dX4_visitorAt_27 : decode cX4_visitorAt 27 = .ok (.iload 4, 2) := by decide +kernel
theorem dX4_visitorAt_29 : decode cX4_visitorAt 29 = .ok (.ireturn, 1) := by decide +kernel
theorem dX4_visitorAt_30 : decode cX4_visitorAt 30 = .ok (.iinc 3 1, 3) := by decide +kernel
theorem dX4_visitorAt_33 : decode cX4_visitorAt 33 = .ok (.iinc 4 1, 3) := by decide +kernel
theorem dX4_visitorAt_36 : decode cX4_visitorAt 36 = .ok (.goto (-31), 3) := by decide +kernel
theorem dX4_visitorAt_39 : decode cX4_visitorAt 39 = .ok (.iconst (-1), 1) := by decide +kernel
theorem dX4_visitorAt_40 : decode cX4_visitorAt 40 = .ok (.ireturn, 1) := by decide +kernel
theorem dX4_tell_0 : decode cX4_tell 0 = .ok (.iload 4, 2) := by decide +kernel
theorem dX4_tell_2 : decode cX4_tell 2 = .ok (.ifCond .eq 20, 3) := by decide +kernel
theorem dX4_tell_5 : decode cX4_tell 5 = .ok (.aload_n 0, 1) := by decide +kernel
theorem dX4_tell_6 : decode cX4_tell 6 = .ok (.getfield 20, 3) := by decide +kernel
theorem dX4_tell_9 : decode cX4_tell 9 = .ok (.iload_n 2, 1) := by decide +kernel
theorem dX4_tell_10 : decode cX4_tell 10 = .ok (.aaload, 1) := by decide +kernel
theorem dX4_tell_11 : decode cX4_tell 11 = .ok (.iload_n 1, 1) := by decide +kernel
theorem dX4_tell_12 : decode cX4_tell 12 = .ok (.dup2, 1) := by decide +kernel
theorem dX4_tell_13 : decode cX4_tell 13 = .ok (.iaload, 1) := by decide +kernel
theorem dX4_tell_14 : decode cX4_tell 14 = .ok (.iconst 1, 1) := by decide +kernel
theorem dX4_tell_15 : decode cX4_tell 15 = .ok (.iload_n 3, 1) := by decide +kernel
theorem dX4_tell_16 : decode cX4_tell 16 = .ok (.ishl, 1) := by decide +kernel
theorem dX4_tell_17 : decode cX4_tell 17 = .ok (.ior, 1) := by decide +kernel
theorem dX4_tell_18 : decode cX4_tell 18 = .ok (.iastore, 1) := by decide +kernel
theorem dX4_tell_19 : decode cX4_tell 19 = .ok (.goto 19, 3) := by decide +kernel
theorem dX4_tell_22 : decode cX4_tell 22 = .ok (.aload_n 0, 1) := by decide +kernel
theorem dX4_tell_23 : decode cX4_tell 23 = .ok (.getfield 20, 3) := by decide +kernel
theorem dX4_tell_26 : decode cX4_tell 26 = .ok (.iload_n 2, 1) := by decide +kernel
theorem dX4_tell_27 : decode cX4_tell 27 = .ok (.aaload, 1) := by decide +kernel
theorem dX4_tell_28 : decode cX4_tell 28 = .ok (.iload_n 1, 1) := by decide +kernel
theorem dX4_tell_29 : decode cX4_tell 29 = .ok (.dup2, 1) := by decide +kernel
theorem dX4_tell_30 : decode cX4_tell 30 = .ok (.iaload, 1) := by decide +kernel
theorem dX4_tell_31 : decode cX4_tell 31 = .ok (.iconst 1, 1) := by decide +kernel
theorem dX4_tell_32 : decode cX4_tell 32 = .ok (.iload_n 3, 1) := by decide +kernel
theorem dX4_tell_33 : decode cX4_tell 33 = .ok (.ishl, 1) := by decide +kernel
theorem dX4_tell_34 : decode cX4_tell 34 = .ok (.iconst (-1), 1) := by decide +kernel
theorem dX4_tell_35 : decode cX4_tell 35 = .ok (.ixor, 1) := by decide +kernel
theorem dX4_tell_36 : decode cX4_tell 36 = .ok (.iand, 1) := by decide +kernel
theorem dX4_tell_37 : decode cX4_tell 37 = .ok (.iastore, 1) := by decide +kernel
theorem dX4_tell_38 : decode cX4_tell 38 = .ok (.return_, 1) := by decide +kernel
theorem dX4_breachesAt_0 : decode cX4_breachesAt 0 = .ok (.iconst 0, 1) := by decide +kernel
theorem dX4_breachesAt_1 : decode cX4_breachesAt 1 = .ok (.istore_n 2, 1) := by decide +kernel
theorem dX4_breachesAt_2 : decode cX4_breachesAt 2 = .ok (.iconst 0, 1) := by decide +kernel
theorem dX4_breachesAt_3 : decode cX4_breachesAt 3 = .ok (.istore_n 3, 1) := by decide +kernel
theorem dX4_breachesAt_4 : decode cX4_breachesAt 4 = .ok (.iconst 0, 1) := by decide +kernel
theorem dX4_breachesAt_5 : decode cX4_breachesAt 5 = .ok (.istore 4, 2) := by decide +kernel
theorem dX4_breachesAt_7 : decode cX4_breachesAt 7 = .ok (.iload 4, 2) := by decide +kernel
theorem dX4_breachesAt_9 : decode cX4_breachesAt 9 = .ok (.bipush 10, 2) := by decide +kernel
theorem dX4_breachesAt_11 : decode cX4_breachesAt 11 = .ok (.if_icmp .ge 35, 3) := by decide +kernel
theorem dX4_breachesAt_14 : decode cX4_breachesAt 14 = .ok (.iload_n 3, 1) := by decide +kernel
theorem dX4_breachesAt_15 : decode cX4_breachesAt 15 = .ok (.iload_n 2, 1) := by decide +kernel
theorem dX4_breachesAt_16 : decode cX4_breachesAt 16 = .ok (.aload_n 0, 1) := by decide +kernel
theorem dX4_breachesAt_17 : decode cX4_breachesAt 17 = .ok (.getfield 20, 3) := by decide +kernel
theorem dX4_breachesAt_20 : decode cX4_breachesAt 20 = .ok (.iload_n 1, 1) := by decide +kernel
theorem dX4_breachesAt_21 : decode cX4_breachesAt 21 = .ok (.aaload, 1) := by decide +kernel
theorem dX4_breachesAt_22 : decode cX4_breachesAt 22 = .ok (.iload 4, 2) := by decide +kernel
theorem dX4_breachesAt_24 : decode cX4_breachesAt 24 = .ok (.iaload, 1) := by decide +kernel
theorem dX4_breachesAt_25 : decode cX4_breachesAt 25 = .ok (.iand, 1) := by decide +kernel
theorem dX4_breachesAt_26 : decode cX4_breachesAt 26 = .ok (.ior, 1) := by decide +kernel
theorem dX4_breachesAt_27 : decode cX4_breachesAt 27 = .ok (.istore_n 3, 1) := by decide +kernel
theorem dX4_breachesAt_28 : decode cX4_breachesAt 28 = .ok (.iload_n 2, 1) := by decide +kernel
theorem dX4_breachesAt_29 : decode cX4_breachesAt 29 = .ok (.aload_n 0, 1) := by decide +kernel
theorem dX4_breachesAt_30 : decode cX4_breachesAt 30 = .ok (.getfield 20, 3) := by decide +kernel
theorem dX4_breachesAt_33 : decode cX4_breachesAt 33 = .ok (.iload_n 1, 1) := by decide +kernel
theorem dX4_breachesAt_34 : decode cX4_breachesAt 34 = .ok (.aaload, 1) := by decide +kernel
theorem dX4_breachesAt_35 : decode cX4_breachesAt 35 = .ok (.iload 4, 2) := by decide +kernel
theorem dX4_breachesAt_37 : decode cX4_breachesAt 37 = .ok (.iaload, 1) := by decide +kernel
theorem dX4_breachesAt_38 : decode cX4_breachesAt 38 = .ok (.ior, 1) := by decide +kernel
theorem dX4_breachesAt_39 : decode cX4_breachesAt 39 = .ok (.istore_n 2, 1) := by decide +kernel
theorem dX4_breachesAt_40 : decode cX4_breachesAt 40 = .ok (.iinc 4 1, 3) := by decide +kernel
theorem dX4_breachesAt_43 : decode cX4_breachesAt 43 = .ok (.goto (-36), 3) := by decide +kernel
theorem dX4_breachesAt_46 : decode cX4_breachesAt 46 = .ok (.iload_n 3, 1) := by decide +kernel
theorem dX4_breachesAt_47 : decode cX4_breachesAt 47 = .ok (.ireturn, 1) := by decide +kernel
theorem dX4_vouchersFor_0 : decode cX4_vouchersFor 0 = .ok (.aload_n 0, 1) := by decide +kernel
theorem dX4_vouchersFor_1 : decode cX4_vouchersFor 1 = .ok (.getfield 9, 3) := by decide +kernel
theorem dX4_vouchersFor_4 : decode cX4_vouchersFor 4 = .ok (.iload_n 1, 1) := by decide +kernel
theorem dX4_vouchersFor_5 : decode cX4_vouchersFor 5 = .ok (.iaload, 1) := by decide +kernel
theorem dX4_vouchersFor_6 : decode cX4_vouchersFor 6 = .ok (.istore_n 2, 1) := by decide +kernel
theorem dX4_vouchersFor_7 : decode cX4_vouchersFor 7 = .ok (.iconst 0, 1) := by decide +kernel
theorem dX4_vouchersFor_8 : decode cX4_vouchersFor 8 = .ok (.istore_n 3, 1) := by decide +kernel
theorem dX4_vouchersFor_9 : decode cX4_vouchersFor 9 = .ok (.iload_n 3, 1) := by decide +kernel
theorem dX4_vouchersFor_10 : decode cX4_vouchersFor 10 = .ok (.bipush 10, 2) := by decide +kernel
theorem dX4_vouchersFor_12 : decode cX4_vouchersFor 12 = .ok (.if_icmp .ge 28, 3) := by decide +kernel
theorem dX4_vouchersFor_15 : decode cX4_vouchersFor 15 = .ok (.aload_n 0, 1) := by decide +kernel
theorem dX4_vouchersFor_16 : decode cX4_vouchersFor 16 = .ok (.getfield 20, 3) := by decide +kernel
theorem dX4_vouchersFor_19 : decode cX4_vouchersFor 19 = .ok (.iload_n 1, 1) := by decide +kernel
theorem dX4_vouchersFor_20 : decode cX4_vouchersFor 20 = .ok (.aaload, 1) := by decide +kernel
theorem dX4_vouchersFor_21 : decode cX4_vouchersFor 21 = .ok (.iload_n 3, 1) := by decide +kernel
theorem dX4_vouchersFor_22 : decode cX4_vouchersFor 22 = .ok (.iaload, 1) := by decide +kernel
theorem dX4_vouchersFor_23 : decode cX4_vouchersFor 23 = .ok (.ifCond .eq 11, 3) := by decide +kernel
theorem dX4_vouchersFor_26 : decode cX4_vouchersFor 26 = .ok (.iload_n 2, 1) := by decide +kernel
theorem dX4_vouchersFor_27 : decode cX4_vouchersFor 27 = .ok (.iconst 1, 1) := by decide +kernel
theorem dX4_vouchersFor_28 : decode cX4_vouchersFor 28 = .ok (.iload_n 3, 1) := by decide +kernel
theorem dX4_vouchersFor_29 : decode cX4_vouchersFor 29 = .ok (.ishl, 1) := by decide +kernel
theorem dX4_vouchersFor_30 : decode cX4_vouchersFor 30 = .ok (.iconst (-1), 1) := by decide +kernel
theorem dX4_vouchersFor_31 : decode cX4_vouchersFor 31 = .ok (.ixor, 1) := by decide +kernel
theorem dX4_vouchersFor_32 : decode cX4_vouchersFor 32 = .ok (.iand, 1) := by decide +kernel
theorem dX4_vouchersFor_33 : decode cX4_vouchersFor 33 = .ok (.istore_n 2, 1) := by decide +kernel
theorem dX4_vouchersFor_34 : decode cX4_vouchersFor 34 = .ok (.iinc 3 1, 3) := by decide +kernel
theorem dX4_vouchersFor_37 : decode cX4_vouchersFor 37 = .ok (.goto (-28), 3) := by decide +kernel
theorem dX4_vouchersFor_40 : decode cX4_vouchersFor 40 = .ok (.iload_n 2, 1) := by decide +kernel
theorem dX4_vouchersFor_41 : decode cX4_vouchersFor 41 = .ok (.ireturn, 1) := by decide +kernel
set_option maxRecDepth 20000 in
theorem ggX4_vouchedForBy_X4_vouchersFor : GoodIn wsX4_vouchedForBy wsX4_vouchersFor := goodIn_r _ [5, 6, 7, 8, 9, 10, 11] (by decide +kernel) (by decide +kernel)
set_option maxRecDepth 20000 in
theorem gX4_vouchedForBy_X4_vouchersFor : GoodIn wsX4_vouchedForBy (wsV RX4 47 RX4 yX4_vouchersFor wsX4_vouchersFor) := goodIn_app (goodIn_of _ (by decide +kernel)) ggX4_vouchedForBy_X4_vouchersFor
theorem dX4_vouchedForBy_0 : decode cX4_vouchedForBy 0 = .ok (.iconst 0, 1) := by decide +kernel
theorem dX4_vouchedForBy_1 : decode cX4_vouchedForBy 1 = .ok (.istore_n 2, 1) := by decide +kernel
theorem dX4_vouchedForBy_2 : decode cX4_vouchedForBy 2 = .ok (.iconst 0, 1) := by decide +kernel
theorem dX4_vouchedForBy_3 : decode cX4_vouchedForBy 3 = .ok (.istore_n 3, 1) := by decide +kernel
theorem dX4_vouchedForBy_4 : decode cX4_vouchedForBy 4 = .ok (.iload_n 3, 1) := by decide +kernel
theorem dX4_vouchedForBy_5 : decode cX4_vouchedForBy 5 = .ok (.bipush 10, 2) := by decide +kernel
theorem dX4_vouchedForBy_7 : decode cX4_vouchedForBy 7 = .ok (.if_icmp .ge 25, 3) := by decide +kernel
theorem dX4_vouchedForBy_10 : decode cX4_vouchedForBy 10 = .ok (.aload_n 0, 1) := by decide +kernel
theorem dX4_vouchedForBy_11 : decode cX4_vouchedForBy 11 = .ok (.iload_n 3, 1) := by decide +kernel
theorem dX4_vouchedForBy_12 : decode cX4_vouchedForBy 12 = .ok (.invokevirtual 47, 3) := by decide +kernel
theorem dX4_vouchedForBy_15 : decode cX4_vouchedForBy 15 = .ok (.iload_n 1, 1) := by decide +kernel
theorem dX4_vouchedForBy_16 : decode cX4_vouchedForBy 16 = .ok (.iand, 1) := by decide +kernel
theorem dX4_vouchedForBy_17 : decode cX4_vouchedForBy 17 = .ok (.ifCond .eq 9, 3) := by decide +kernel
theorem dX4_vouchedForBy_20 : decode cX4_vouchedForBy 20 = .ok (.iload_n 2, 1) := by decide +kernel
theorem dX4_vouchedForBy_21 : decode cX4_vouchedForBy 21 = .ok (.iconst 1, 1) := by decide +kernel
theorem dX4_vouchedForBy_22 : decode cX4_vouchedForBy 22 = .ok (.iload_n 3, 1) := by decide +kernel
theorem dX4_vouchedForBy_23 : decode cX4_vouchedForBy 23 = .ok (.ishl, 1) := by decide +kernel
theorem dX4_vouchedForBy_24 : decode cX4_vouchedForBy 24 = .ok (.ior, 1) := by decide +kernel
theorem dX4_vouchedForBy_25 : decode cX4_vouchedForBy 25 = .ok (.istore_n 2, 1) := by decide +kernel
theorem dX4_vouchedForBy_26 : decode cX4_vouchedForBy 26 = .ok (.iinc 3 1, 3) := by decide +kernel
theorem dX4_vouchedForBy_29 : decode cX4_vouchedForBy 29 = .ok (.goto (-25), 3) := by decide +kernel
theorem dX4_vouchedForBy_32 : decode cX4_vouchedForBy 32 = .ok (.iload_n 2, 1) := by decide +kernel
theorem dX4_vouchedForBy_33 : decode cX4_vouchedForBy 33 = .ok (.ireturn, 1) := by decide +kernel
set_option maxRecDepth 20000 in
theorem ggX4_endYear_J7_fill_53178 : GoodIn wsX4_endYear wsJ7_fill_53178 := goodIn_r _ [12] (by decide +kernel) (by decide +kernel)
set_option maxRecDepth 20000 in
theorem gX4_endYear_J7_fill_53178 : GoodIn wsX4_endYear (va_wsS RX4 56 yJ7_fill_53178 wsJ7_fill_53178) := goodIn_app (goodIn_of _ (by decide +kernel)) ggX4_endYear_J7_fill_53178
theorem dX4_endYear_0 : decode cX4_endYear 0 = .ok (.aload_n 0, 1) := by decide +kernel
theorem dX4_endYear_1 : decode cX4_endYear 1 = .ok (.getfield 9, 3) := by decide +kernel
theorem dX4_endYear_4 : decode cX4_endYear 4 = .ok (.iconst 0, 1) := by decide +kernel
theorem dX4_endYear_5 : decode cX4_endYear 5 = .ok (.aload_n 0, 1) := by decide +kernel
theorem dX4_endYear_6 : decode cX4_endYear 6 = .ok (.getfield 15, 3) := by decide +kernel
theorem dX4_endYear_9 : decode cX4_endYear 9 = .ok (.iconst 0, 1) := by decide +kernel
theorem dX4_endYear_10 : decode cX4_endYear 10 = .ok (.bipush 10, 2) := by decide +kernel
theorem dX4_endYear_12 : decode cX4_endYear 12 = .ok (.invokestatic 50, 3) := by decide +kernel
theorem dX4_endYear_15 : decode cX4_endYear 15 = .ok (.aload_n 0, 1) := by decide +kernel
theorem dX4_endYear_16 : decode cX4_endYear 16 = .ok (.getfield 9, 3) := by decide +kernel
theorem dX4_endYear_19 : decode cX4_endYear 19 = .ok (.iconst 0, 1) := by decide +kernel
theorem dX4_endYear_20 : decode cX4_endYear 20 = .ok (.invokestatic 56, 3) := by decide +kernel
theorem dX4_endYear_23 : decode cX4_endYear 23 = .ok (.iconst 0, 1) := by decide +kernel
theorem dX4_endYear_24 : decode cX4_endYear 24 = .ok (.istore_n 1, 1) := by decide +kernel
theorem dX4_endYear_25 : decode cX4_endYear 25 = .ok (.iload_n 1, 1) := by decide +kernel
theorem dX4_endYear_26 : decode cX4_endYear 26 = .ok (.bipush 10, 2) := by decide +kernel
theorem dX4_endYear_28 : decode cX4_endYear 28 = .ok (.if_icmp .ge 19, 3) := by decide +kernel
theorem dX4_endYear_31 : decode cX4_endYear 31 = .ok (.aload_n 0, 1) := by decide +kernel
theorem dX4_endYear_32 : decode cX4_endYear 32 = .ok (.getfield 20, 3) := by decide +kernel
theorem dX4_endYear_35 : decode cX4_endYear 35 = .ok (.iload_n 1, 1) := by decide +kernel
theorem dX4_endYear_36 : decode cX4_endYear 36 = .ok (.aaload, 1) := by decide +kernel
theorem dX4_endYear_37 : decode cX4_endYear 37 = .ok (.iconst 0, 1) := by decide +kernel
theorem dX4_endYear_38 : decode cX4_endYear 38 = .ok (.invokestatic 56, 3) := by decide +kernel
theorem dX4_endYear_41 : decode cX4_endYear 41 = .ok (.iinc 1 1, 3) := by decide +kernel
theorem dX4_endYear_44 : decode cX4_endYear 44 = .ok (.goto (-19), 3) := by decide +kernel
theorem dX4_endYear_47 : decode cX4_endYear 47 = .ok (.aload_n 0, 1) := by decide +kernel
theorem dX4_endYear_48 : decode cX4_endYear 48 = .ok (.iconst 0, 1) := by decide +kernel
theorem dX4_endYear_49 : decode cX4_endYear 49 = .ok (.putfield 23, 3) := by decide +kernel
theorem dX4_endYear_52 : decode cX4_endYear 52 = .ok (.return_, 1) := by decide +kernel
set_option maxRecDepth 20000 in
theorem ggX5_init_X3_init : GoodIn wsX5_init wsX3_init := goodIn_r _ [28, 29, 2, 3, 22, 30, 31, 66, 67] (by decide +kernel) (by decide +kernel)
set_option maxRecDepth 20000 in
theorem gX5_init_X3_init_n9 : GoodIn wsX5_init (wsX3_init) := ggX5_init_X3_init
set_option maxRecDepth 20000 in
theorem ggX5_init_X2_init : GoodIn wsX5_init wsX2_init := goodIn_r _ [34, 35, 2, 3, 22, 36, 37, 38, 39, 40, 41, 42, 43, 77, 78, 79] (by decide +kernel) (by decide +kernel)
set_option maxRecDepth 20000 in
theorem gX5_init_X2_init : GoodIn wsX5_init (wsX2_init) := ggX5_init_X2_init
set_option maxRecDepth 20000 in
theorem ggX5_init_X4_init : GoodIn wsX5_init wsX4_init := goodIn_r _ [45, 46, 2, 3, 22, 47, 48, 49, 50, 51, 80, 81, 82, 83] (by decide +kernel) (by decide +kernel)
set_option maxRecDepth 20000 in
theorem gX5_init_X4_init_n25 : GoodIn wsX5_init (wsX4_init) := ggX5_init_X4_init
set_option maxRecDepth 20000 in
theorem ggX5_init_X1_init : GoodIn wsX5_init wsX1_init := goodIn_r _ [53, 54, 2, 3, 22, 55, 56, 57, 58, 59, 60, 61, 84, 85, 86, 87, 88, 89, 90] (by decide +kernel) (by decide +kernel)
set_option maxRecDepth 20000 in
theorem gX5_init_X1_init_n32 : GoodIn wsX5_init (wsX1_init) := ggX5_init_X1_init
set_option maxRecDepth 20000 in
theorem ggX5_init_J7_fill_53178 : GoodIn wsX5_init wsJ7_fill_53178 := goodIn_r _ [65] (by decide +kernel) (by decide +kernel)
set_option maxRecDepth 20000 in
theorem gX5_init_J7_fill_53178 : GoodIn wsX5_init (va_wsS RX5 57 yJ7_fill_53178 wsJ7_fill_53178) := goodIn_app (goodIn_of _ (by decide +kernel)) ggX5_init_J7_fill_53178
theorem dX5_init_0 : decode cX5_init 0 = .ok (.aload_n 0, 1) := by decide +kernel
theorem dX5_init_1 : decode cX5_init 1 = .ok (.invokespecial 1, 3) := by decide +kernel
theorem dX5_init_4 : decode cX5_init 4 = .ok (.aload_n 0, 1) := by decide +kernel
theorem dX5_init_5 : decode cX5_init 5 = .ok (.new 7, 3) := by decide +kernel
theorem dX5_init_8 : decode cX5_init 8 = .ok (.dup, 1) := by decide +kernel
theorem dX5_init_9 : decode cX5_init 9 = .ok (.invokespecial 9, 3) := by decide +kernel
theorem dX5_init_12 : decode cX5_init 12 = .ok (.putfield 10, 3) := by decide +kernel
theorem dX5_init_15 : decode cX5_init 15 = .ok (.aload_n 0, 1) := by decide +kernel
theorem dX5_init_16 : decode cX5_init 16 = .ok (.new 16, 3) := by decide +kernel
theorem dX5_init_19 : decode cX5_init 19 = .ok (.dup, 1) := by decide +kernel
theorem dX5_init_20 : decode cX5_init 20 = .ok (.invokespecial 18, 3) := by decide +kernel
theorem dX5_init_23 : decode cX5_init 23 = .ok (.putfield 19, 3) := by decide +kernel
theorem dX5_init_26 : decode cX5_init 26 = .ok (.aload_n 0, 1) := by decide +kernel
theorem dX5_init_27 : decode cX5_init 27 = .ok (.new 23, 3) := by decide +kernel
theorem dX5_init_30 : decode cX5_init 30 = .ok (.dup, 1) := by decide +kernel
theorem dX5_init_31 : decode cX5_init 31 = .ok (.invokespecial 25, 3) := by decide +kernel
theorem dX5_init_34 : decode cX5_init 34 = .ok (.putfield 26, 3) := by decide +kernel
theorem dX5_init_37 : decode cX5_init 37 = .ok (.aload_n 0, 1) := by decide +kernel
theorem dX5_init_38 : decode cX5_init 38 = .ok (.new 30, 3) := by decide +kernel
theorem dX5_init_41 : decode cX5_init 41 = .ok (.dup, 1) := by decide +kernel
theorem dX5_init_42 : decode cX5_init 42 = .ok (.invokespecial 32, 3) := by decide +kernel
theorem dX5_init_45 : decode cX5_init 45 = .ok (.putfield 33, 3) := by decide +kernel
theorem dX5_init_48 : decode cX5_init 48 = .ok (.aload_n 0, 1) := by decide +kernel
theorem dX5_init_49 : decode cX5_init 49 = .ok (.bipush 10, 2) := by decide +kernel
theorem dX5_init_51 : decode cX5_init 51 = .ok (.anewarray 37, 3) := by decide +kernel
theorem dX5_init_54 : decode cX5_init 54 = .ok (.putfield 39, 3) := by decide +kernel
theorem dX5_init_57 : decode cX5_init 57 = .ok (.aload_n 0, 1) := by decide +kernel
theorem dX5_init_58 : decode cX5_init 58 = .ok (.bipush 10, 2) := by decide +kernel
theorem dX5_init_60 : decode cX5_init 60 = .ok (.newarray .int, 2) := by decide +kernel
theorem dX5_init_62 : decode cX5_init 62 = .ok (.putfield 43, 3) := by decide +kernel
theorem dX5_init_65 : decode cX5_init 65 = .ok (.aload_n 0, 1) := by decide +kernel
theorem dX5_init_66 : decode cX5_init 66 = .ok (.bipush 8, 2) := by decide +kernel
theorem dX5_init_68 : decode cX5_init 68 = .ok (.newarray .int, 2) := by decide +kernel
theorem dX5_init_70 : decode cX5_init 70 = .ok (.putfield 47, 3) := by decide +kernel
theorem dX5_init_73 : decode cX5_init 73 = .ok (.aload_n 0, 1) := by decide +kernel
theorem dX5_init_74 : decode cX5_init 74 = .ok (.iconst 0, 1) := by decide +kernel
end
section
theorem dX5_init_75 : decode cX5_init 75 = .ok (.putfield 50, 3) := by decide +kernel
theorem dX5_init_78 : decode cX5_init 78 = .ok (.aload_n 0, 1) := by decide +kernel
theorem dX5_init_79 : decode cX5_init 79 = .ok (.iconst 0, 1) := by decide +kernel
theorem dX5_init_80 : decode cX5_init 80 = .ok (.putfield 54, 3) := by decide +kernel
theorem dX5_init_83 : decode cX5_init 83 = .ok (.aload_n 0, 1) := by decide +kernel
theorem dX5_init_84 : decode cX5_init 84 = .ok (.getfield 47, 3) := by decide +kernel
theorem dX5_init_87 : decode cX5_init 87 = .ok (.iconst 1, 1) := by decide +kernel
theorem dX5_init_88 : decode cX5_init 88 = .ok (.invokestatic 57, 3) := by decide +kernel
theorem dX5_init_91 : decode cX5_init 91 = .ok (.return_, 1) := by decide +kernel
set_option maxRecDepth 20000 in
theorem ggX5_feed_X3_takesFeed : GoodIn wsX5_feed wsX3_takesFeed := goodIn_r _ [6, 7, 29, 30] (by decide +kernel) (by decide +kernel)
set_option maxRecDepth 20000 in
theorem gX5_feed_X3_takesFeed : GoodIn wsX5_feed (wsV RX5 63 RX3 yX3_takesFeed wsX3_takesFeed) := goodIn_app (goodIn_of _ (by decide +kernel)) ggX5_feed_X3_takesFeed
set_option maxRecDepth 20000 in
theorem ggX5_feed_X3_put : GoodIn wsX5_feed wsX3_put := goodIn_r _ [11, 7, 12, 13, 14, 15, 29, 30] (by decide +kernel) (by decide +kernel)
set_option maxRecDepth 20000 in
theorem gX5_feed_X3_put : GoodIn wsX5_feed (wsV RX5 67 RX3 yX3_put wsX3_put) := goodIn_app (goodIn_of _ (by decide +kernel)) ggX5_feed_X3_put
set_option maxRecDepth 20000 in
theorem ggX5_feed_X3_size : GoodIn wsX5_feed wsX3_size := goodIn_r _ [19, 7, 29, 30] (by decide +kernel) (by decide +kernel)
set_option maxRecDepth 20000 in
theorem gX5_feed_X3_size : GoodIn wsX5_feed (wsV RX5 71 RX3 yX3_size wsX3_size) := goodIn_app (goodIn_of _ (by decide +kernel)) ggX5_feed_X3_size
theorem dX5_feed_0 : decode cX5_feed 0 = .ok (.aload_n 0, 1) := by decide +kernel
theorem dX5_feed_1 : decode cX5_feed 1 = .ok (.getfield 10, 3) := by decide +kernel
theorem dX5_feed_4 : decode cX5_feed 4 = .ok (.invokevirtual 63, 3) := by decide +kernel
theorem dX5_feed_7 : decode cX5_feed 7 = .ok (.ifCond .ne 5, 3) := by decide +kernel
theorem dX5_feed_10 : decode cX5_feed 10 = .ok (.iconst (-1), 1) := by decide +kernel
theorem dX5_feed_11 : decode cX5_feed 11 = .ok (.ireturn, 1) := by decide +kernel
theorem dX5_feed_12 : decode cX5_feed 12 = .ok (.aload_n 0, 1) := by decide +kernel
theorem dX5_feed_13 : decode cX5_feed 13 = .ok (.getfield 10, 3) := by decide +kernel
theorem dX5_feed_16 : decode cX5_feed 16 = .ok (.iload_n 1, 1) := by decide +kernel
theorem dX5_feed_17 : decode cX5_feed 17 = .ok (.invokevirtual 67, 3) := by decide +kernel
theorem dX5_feed_20 : decode cX5_feed 20 = .ok (.aload_n 0, 1) := by decide +kernel
theorem dX5_feed_21 : decode cX5_feed 21 = .ok (.getfield 10, 3) := by decide +kernel
theorem dX5_feed_24 : decode cX5_feed 24 = .ok (.iload_n 2, 1) := by decide +kernel
theorem dX5_feed_25 : decode cX5_feed 25 = .ok (.invokevirtual 67, 3) := by decide +kernel
theorem dX5_feed_28 : decode cX5_feed 28 = .ok (.aload_n 0, 1) := by decide +kernel
theorem dX5_feed_29 : decode cX5_feed 29 = .ok (.getfield 10, 3) := by decide +kernel
theorem dX5_feed_32 : decode cX5_feed 32 = .ok (.iload_n 3, 1) := by decide +kernel
theorem dX5_feed_33 : decode cX5_feed 33 = .ok (.invokevirtual 67, 3) := by decide +kernel
theorem dX5_feed_36 : decode cX5_feed 36 = .ok (.aload_n 0, 1) := by decide +kernel
theorem dX5_feed_37 : decode cX5_feed 37 = .ok (.getfield 10, 3) := by decide +kernel
theorem dX5_feed_40 : decode cX5_feed 40 = .ok (.iload 4, 2) := by decide +kernel
theorem dX5_feed_42 : decode cX5_feed 42 = .ok (.invokevirtual 67, 3) := by decide +kernel
theorem dX5_feed_45 : decode cX5_feed 45 = .ok (.aload_n 0, 1) := by decide +kernel
theorem dX5_feed_46 : decode cX5_feed 46 = .ok (.getfield 10, 3) := by decide +kernel
theorem dX5_feed_49 : decode cX5_feed 49 = .ok (.iload 5, 2) := by decide +kernel
theorem dX5_feed_51 : decode cX5_feed 51 = .ok (.invokevirtual 67, 3) := by decide +kernel
theorem dX5_feed_54 : decode cX5_feed 54 = .ok (.aload_n 0, 1) := by decide +kernel
theorem dX5_feed_55 : decode cX5_feed 55 = .ok (.getfield 10, 3) := by decide +kernel
theorem dX5_feed_58 : decode cX5_feed 58 = .ok (.invokevirtual 71, 3) := by decide +kernel
theorem dX5_feed_61 : decode cX5_feed 61 = .ok (.ireturn, 1) := by decide +kernel
set_option maxRecDepth 20000 in
theorem ggX5_rules_X3_size : GoodIn wsX5_rules wsX3_size := goodIn_r _ [7, 8, 154, 155] (by decide +kernel) (by decide +kernel)
set_option maxRecDepth 20000 in
theorem gX5_rules_X3_size : GoodIn wsX5_rules (wsV RX5 71 RX3 yX3_size wsX3_size) := goodIn_app (goodIn_of _ (by decide +kernel)) ggX5_rules_X3_size
set_option maxRecDepth 20000 in
theorem ggX5_rules_X3_cutTo : GoodIn wsX5_rules wsX3_cutTo := goodIn_r _ [12, 8, 154, 155] (by decide +kernel) (by decide +kernel)
set_option maxRecDepth 20000 in
theorem gX5_rules_X3_cutTo : GoodIn wsX5_rules (wsV RX5 75 RX3 yX3_cutTo wsX3_cutTo) := goodIn_app (goodIn_of _ (by decide +kernel)) ggX5_rules_X3_cutTo
set_option maxRecDepth 20000 in
theorem ggX5_rules_X2_read : GoodIn wsX5_rules wsX2_read := goodIn_r _ [17, 18, 19, 20, 21, 22, 23, 24, 25, 26, 4, 5, 6, 7, 8, 27, 28, 29, 16, 30, 31, 32, 33, 34, 35, 36, 37, 38, 39, 40, 41, 42, 43, 44, 45, 46, 47, 48, 49, 50, 51, 52, 53, 54, 55, 56, 57, 58, 59, 60, 61, 62, 63, 64, 65, 66, 67, 68, 69, 70, 71, 72, 73, 74, 75, 76, 77, 78, 79, 80, 81, 82, 83, 84, 85, 86, 87, 88, 89, 90, 91, 92, 93, 94, 95, 96, 97, 98, 99, 100, 101, 102, 103, 104, 105, 106, 107, 108, 109, 110, 111, 112, 113, 114, 115, 116, 117, 118, 119, 120, 121, 122, 123, 124, 125, 126, 127, 128, 129, 130, 131, 132, 133, 134, 135, 136, 137, 138, 139, 140, 141, 142, 143, 144, 156, 157, 158, 154, 155] (by decide +kernel) (by decide +kernel)
set_option maxRecDepth 20000 in
theorem gX5_rules_X2_read : GoodIn wsX5_rules (wsV RX5 78 RX2 yX2_read wsX2_read) := goodIn_app (goodIn_of _ (by decide +kernel)) ggX5_rules_X2_read
theorem dX5_rules_0 : decode cX5_rules 0 = .ok (.iload_n 1, 1) := by decide +kernel
theorem dX5_rules_1 : decode cX5_rules 1 = .ok (.ifCond .lt 14, 3) := by decide +kernel
theorem dX5_rules_4 : decode cX5_rules 4 = .ok (.iload_n 1, 1) := by decide +kernel
theorem dX5_rules_5 : decode cX5_rules 5 = .ok (.aload_n 0, 1) := by decide +kernel
theorem dX5_rules_6 : decode cX5_rules 6 = .ok (.getfield 10, 3) := by decide +kernel
theorem dX5_rules_9 : decode cX5_rules 9 = .ok (.invokevirtual 71, 3) := by decide +kernel
theorem dX5_rules_12 : decode cX5_rules 12 = .ok (.if_icmp .le 5, 3) := by decide +kernel
theorem dX5_rules_15 : decode cX5_rules 15 = .ok (.iconst (-1), 1) := by decide +kernel
theorem dX5_rules_16 : decode cX5_rules 16 = .ok (.ireturn, 1) := by decide +kernel
theorem dX5_rules_17 : decode cX5_rules 17 = .ok (.aload_n 0, 1) := by decide +kernel
theorem dX5_rules_18 : decode cX5_rules 18 = .ok (.getfield 10, 3) := by decide +kernel
theorem dX5_rules_21 : decode cX5_rules 21 = .ok (.iload_n 1, 1) := by decide +kernel
theorem dX5_rules_22 : decode cX5_rules 22 = .ok (.invokevirtual 75, 3) := by decide +kernel
theorem dX5_rules_25 : decode cX5_rules 25 = .ok (.aload_n 0, 1) := by decide +kernel
theorem dX5_rules_26 : decode cX5_rules 26 = .ok (.getfield 19, 3) := by decide +kernel
theorem dX5_rules_29 : decode cX5_rules 29 = .ok (.aload_n 0, 1) := by decide +kernel
theorem dX5_rules_30 : decode cX5_rules 30 = .ok (.getfield 10, 3) := by decide +kernel
theorem dX5_rules_33 : decode cX5_rules 33 = .ok (.invokevirtual 78, 3) := by decide +kernel
theorem dX5_rules_36 : decode cX5_rules 36 = .ok (.istore_n 2, 1) := by decide +kernel
theorem dX5_rules_37 : decode cX5_rules 37 = .ok (.aload_n 0, 1) := by decide +kernel
theorem dX5_rules_38 : decode cX5_rules 38 = .ok (.getfield 10, 3) := by decide +kernel
theorem dX5_rules_41 : decode cX5_rules 41 = .ok (.iconst 0, 1) := by decide +kernel
theorem dX5_rules_42 : decode cX5_rules 42 = .ok (.invokevirtual 75, 3) := by decide +kernel
theorem dX5_rules_45 : decode cX5_rules 45 = .ok (.iload_n 2, 1) := by decide +kernel
theorem dX5_rules_46 : decode cX5_rules 46 = .ok (.ireturn, 1) := by decide +kernel
set_option maxRecDepth 20000 in
theorem ggX5_farm_X5_isBelow : GoodIn wsX5_farm wsX5_isBelow := goodIn_r _ [9] (by decide +kernel) (by decide +kernel)
set_option maxRecDepth 20000 in
theorem gX5_farm_X5_isBelow : GoodIn wsX5_farm (va_wsS RX5 82 yX5_isBelow wsX5_isBelow) := goodIn_app (goodIn_of _ (by decide +kernel)) ggX5_farm_X5_isBelow
set_option maxRecDepth 20000 in
theorem ggX5_farm_X0_init : GoodIn wsX5_farm wsX0_init := goodIn_r _ [12, 13, 14, 15, 16, 17, 18, 19, 20, 21, 22, 23, 33, 34, 35, 36, 37, 38, 39, 40] (by decide +kernel) (by decide +kernel)
set_option maxRecDepth 20000 in
theorem gX5_farm_X0_init : GoodIn wsX5_farm (wsX0_init) := ggX5_farm_X0_init
theorem dX5_farm_0 : decode cX5_farm 0 = .ok (.iload_n 1, 1) := by decide +kernel
theorem dX5_farm_1 : decode cX5_farm 1 = .ok (.bipush 8, 2) := by decide +kernel
theorem dX5_farm_3 : decode cX5_farm 3 = .ok (.invokestatic 82, 3) := by decide +kernel
theorem dX5_farm_6 : decode cX5_farm 6 = .ok (.ifCond .eq 23, 3) := by decide +kernel
theorem dX5_farm_9 : decode cX5_farm 9 = .ok (.iload_n 2, 1) := by decide +kernel
theorem dX5_farm_10 : decode cX5_farm 10 = .ok (.iconst 4, 1) := by decide +kernel
theorem dX5_farm_11 : decode cX5_farm 11 = .ok (.invokestatic 82, 3) := by decide +kernel
theorem dX5_farm_14 : decode cX5_farm 14 = .ok (.ifCond .eq 15, 3) := by decide +kernel
theorem dX5_farm_17 : decode cX5_farm 17 = .ok (.aload_n 0, 1) := by decide +kernel
theorem dX5_farm_18 : decode cX5_farm 18 = .ok (.getfield 50, 3) := by decide +kernel
theorem dX5_farm_21 : decode cX5_farm 21 = .ok (.bipush 10, 2) := by decide +kernel
theorem dX5_farm_23 : decode cX5_farm 23 = .ok (.invokestatic 82, 3) := by decide +kernel
theorem dX5_farm_26 : decode cX5_farm 26 = .ok (.ifCond .ne 5, 3) := by decide +kernel
theorem dX5_farm_29 : decode cX5_farm 29 = .ok (.iconst (-1), 1) := by decide +kernel
theorem dX5_farm_30 : decode cX5_farm 30 = .ok (.ireturn, 1) := by decide +kernel
theorem dX5_farm_31 : decode cX5_farm 31 = .ok (.aload_n 0, 1) := by decide +kernel
theorem dX5_farm_32 : decode cX5_farm 32 = .ok (.getfield 39, 3) := by decide +kernel
theorem dX5_farm_35 : decode cX5_farm 35 = .ok (.aload_n 0, 1) := by decide +kernel
theorem dX5_farm_36 : decode cX5_farm 36 = .ok (.getfield 50, 3) := by decide +kernel
theorem dX5_farm_39 : decode cX5_farm 39 = .ok (.new 37, 3) := by decide +kernel
theorem dX5_farm_42 : decode cX5_farm 42 = .ok (.dup, 1) := by decide +kernel
theorem dX5_farm_43 : decode cX5_farm 43 = .ok (.iload_n 1, 1) := by decide +kernel
theorem dX5_farm_44 : decode cX5_farm 44 = .ok (.iload_n 2, 1) := by decide +kernel
theorem dX5_farm_45 : decode cX5_farm 45 = .ok (.invokespecial 86, 3) := by decide +kernel
theorem dX5_farm_48 : decode cX5_farm 48 = .ok (.aastore, 1) := by decide +kernel
theorem dX5_farm_49 : decode cX5_farm 49 = .ok (.aload_n 0, 1) := by decide +kernel
theorem dX5_farm_50 : decode cX5_farm 50 = .ok (.dup, 1) := by decide +kernel
theorem dX5_farm_51 : decode cX5_farm 51 = .ok (.getfield 50, 3) := by decide +kernel
theorem dX5_farm_54 : decode cX5_farm 54 = .ok (.iconst 1, 1) := by decide +kernel
theorem dX5_farm_55 : decode cX5_farm 55 = .ok (.iadd, 1) := by decide +kernel
theorem dX5_farm_56 : decode cX5_farm 56 = .ok (.putfield 50, 3) := by decide +kernel
theorem dX5_farm_59 : decode cX5_farm 59 = .ok (.aload_n 0, 1) := by decide +kernel
theorem dX5_farm_60 : decode cX5_farm 60 = .ok (.getfield 50, 3) := by decide +kernel
theorem dX5_farm_63 : decode cX5_farm 63 = .ok (.iconst 1, 1) := by decide +kernel
theorem dX5_farm_64 : decode cX5_farm 64 = .ok (.isub, 1) := by decide +kernel
theorem dX5_farm_65 : decode cX5_farm 65 = .ok (.ireturn, 1) := by decide +kernel
set_option maxRecDepth 20000 in
theorem ggX5_buys_X5_areFarms : GoodIn wsX5_buys wsX5_areFarms := goodIn_r _ [6, 7, 8, 9, 5, 10, 11, 12, 13, 14, 22, 23, 24, 25, 26, 27, 28, 29, 30] (by decide +kernel) (by decide +kernel)
set_option maxRecDepth 20000 in
theorem gX5_buys_X5_areFarms : GoodIn wsX5_buys (wsV RX5 89 RX5 yX5_areFarms wsX5_areFarms) := goodIn_app (goodIn_of _ (by decide +kernel)) ggX5_buys_X5_areFarms
set_option maxRecDepth 20000 in
theorem ggX5_buys_X5_buysFrom : GoodIn wsX5_buys wsX5_buysFrom := goodIn_r _ [18, 1, 19, 20, 5, 21, 22, 23, 24, 25, 26, 27, 28, 29, 30] (by decide +kernel) (by decide +kernel)
set_option maxRecDepth 20000 in
theorem gX5_buys_X5_buysFrom : GoodIn wsX5_buys (wsV RX5 92 RX5 yX5_buysFrom wsX5_buysFrom) := goodIn_app (goodIn_of _ (by decide +kernel)) ggX5_buys_X5_buysFrom
theorem dX5_buys_0 : decode cX5_buys 0 = .ok (.aload_n 0, 1) := by decide +kernel
theorem dX5_buys_1 : decode cX5_buys 1 = .ok (.iload_n 1, 1) := by decide +kernel
theorem dX5_buys_2 : decode cX5_buys 2 = .ok (.iload_n 2, 1) := by decide +kernel
theorem dX5_buys_3 : decode cX5_buys 3 = .ok (.invokevirtual 89, 3) := by decide +kernel
theorem dX5_buys_6 : decode cX5_buys 6 = .ok (.ifCond .eq 18, 3) := by decide +kernel
theorem dX5_buys_9 : decode cX5_buys 9 = .ok (.iload_n 1, 1) := by decide +kernel
theorem dX5_buys_10 : decode cX5_buys 10 = .ok (.iload_n 2, 1) := by decide +kernel
theorem dX5_buys_11 : decode cX5_buys 11 = .ok (.if_icmp .eq 13, 3) := by decide +kernel
theorem dX5_buys_14 : decode cX5_buys 14 = .ok (.aload_n 0, 1) := by decide +kernel
theorem dX5_buys_15 : decode cX5_buys 15 = .ok (.iload_n 1, 1) := by decide +kernel
theorem dX5_buys_16 : decode cX5_buys 16 = .ok (.iload_n 2, 1) := by decide +kernel
theorem dX5_buys_17 : decode cX5_buys 17 = .ok (.invokevirtual 92, 3) := by decide +kernel
theorem dX5_buys_20 : decode cX5_buys 20 = .ok (.iload_n 3, 1) := by decide +kernel
theorem dX5_buys_21 : decode cX5_buys 21 = .ok (.if_icmp .ne 5, 3) := by decide +kernel
theorem dX5_buys_24 : decode cX5_buys 24 = .ok (.iconst 0, 1) := by decide +kernel
theorem dX5_buys_25 : decode cX5_buys 25 = .ok (.ireturn, 1) := by decide +kernel
theorem dX5_buys_26 : decode cX5_buys 26 = .ok (.aload_n 0, 1) := by decide +kernel
theorem dX5_buys_27 : decode cX5_buys 27 = .ok (.getfield 43, 3) := by decide +kernel
theorem dX5_buys_30 : decode cX5_buys 30 = .ok (.iload_n 1, 1) := by decide +kernel
theorem dX5_buys_31 : decode cX5_buys 31 = .ok (.dup2, 1) := by decide +kernel
theorem dX5_buys_32 : decode cX5_buys 32 = .ok (.iaload, 1) := by decide +kernel
theorem dX5_buys_33 : decode cX5_buys 33 = .ok (.iconst 1, 1) := by decide +kernel
theorem dX5_buys_34 : decode cX5_buys 34 = .ok (.iload_n 2, 1) := by decide +kernel
theorem dX5_buys_35 : decode cX5_buys 35 = .ok (.ishl, 1) := by decide +kernel
theorem dX5_buys_36 : decode cX5_buys 36 = .ok (.ixor, 1) := by decide +kernel
theorem dX5_buys_37 : decode cX5_buys 37 = .ok (.iastore, 1) := by decide +kernel
theorem dX5_buys_38 : decode cX5_buys 38 = .ok (.iconst 1, 1) := by decide +kernel
theorem dX5_buys_39 : decode cX5_buys 39 = .ok (.ireturn, 1) := by decide +kernel
set_option maxRecDepth 20000 in
theorem ggX5_weight_X5_isBelow : GoodIn wsX5_weight wsX5_isBelow := goodIn_r _ [5] (by decide +kernel) (by decide +kernel)
set_option maxRecDepth 20000 in
theorem gX5_weight_X5_isBelow : GoodIn wsX5_weight (va_wsS RX5 82 yX5_isBelow wsX5_isBelow) := goodIn_app (goodIn_of _ (by decide +kernel)) ggX5_weight_X5_isBelow
theorem dX5_weight_0 : decode cX5_weight 0 = .ok (.iload_n 1, 1) := by decide +kernel
theorem dX5_weight_1 : decode cX5_weight 1 = .ok (.bipush 8, 2) := by decide +kernel
theorem dX5_weight_3 : decode cX5_weight 3 = .ok (.invokestatic 82, 3) := by decide +kernel
theorem dX5_weight_6 : decode cX5_weight 6 = .ok (.ifCond .eq 14, 3) := by decide +kernel
theorem dX5_weight_9 : decode cX5_weight 9 = .ok (.iload_n 2, 1) := by decide +kernel
theorem dX5_weight_10 : decode cX5_weight 10 = .ok (.iconst 1, 1) := by decide +kernel
theorem dX5_weight_11 : decode cX5_weight 11 = .ok (.if_icmp .lt 9, 3) := by decide +kernel
theorem dX5_weight_14 : decode cX5_weight 14 = .ok (.iload_n 2, 1) := by decide +kernel
theorem dX5_weight_15 : decode cX5_weight 15 = .ok (.bipush 99, 2) := by decide +kernel
theorem dX5_weight_17 : decode cX5_weight 17 = .ok (.if_icmp .le 5, 3) := by decide +kernel
theorem dX5_weight_20 : decode cX5_weight 20 = .ok (.iconst 0, 1) := by decide +kernel
theorem dX5_weight_21 : decode cX5_weight 21 = .ok (.ireturn, 1) := by decide +kernel
theorem dX5_weight_22 : decode cX5_weight 22 = .ok (.aload_n 0, 1) := by decide +kernel
theorem dX5_weight_23 : decode cX5_weight 23 = .ok (.getfield 47, 3) := by decide +kernel
theorem dX5_weight_26 : decode cX5_weight 26 = .ok (.iload_n 1, 1) := by decide +kernel
theorem dX5_weight_27 : decode cX5_weight 27 = .ok (.iload_n 2, 1) := by decide +kernel
theorem dX5_weight_28 : decode cX5_weight 28 = .ok (.iastore, 1) := by decide +kernel
theorem dX5_weight_29 : decode cX5_weight 29 = .ok (.iconst 1, 1) := by decide +kernel
theorem dX5_weight_30 : decode cX5_weight 30 = .ok (.ireturn, 1) := by decide +kernel
set_option maxRecDepth 20000 in
theorem ggX5_lay_X4_areLaid : GoodIn wsX5_lay wsX4_areLaid := goodIn_r _ [9, 10, 152, 153, 154, 155] (by decide +kernel) (by decide +kernel)
set_option maxRecDepth 20000 in
theorem gX5_lay_X4_areLaid : GoodIn wsX5_lay (wsV RX5 95 RX4 yX4_areLaid wsX4_areLaid) := goodIn_app (goodIn_of _ (by decide +kernel)) ggX5_lay_X4_areLaid
set_option maxRecDepth 20000 in
theorem ggX5_lay_X2_number : GoodIn wsX5_lay wsX2_number := goodIn_r _ [15, 16, 17, 18, 19, 156, 157, 158] (by decide +kernel) (by decide +kernel)
set_option maxRecDepth 20000 in
theorem gX5_lay_X2_number : GoodIn wsX5_lay (wsV RX5 98 RX2 yX2_number wsX2_number) := goodIn_app (goodIn_of _ (by decide +kernel)) ggX5_lay_X2_number
set_option maxRecDepth 20000 in
theorem ggX5_lay_X1_begin : GoodIn wsX5_lay wsX1_begin := goodIn_r _ [24, 25, 26, 27, 28, 29, 30, 31, 32, 33, 159, 160, 161, 162, 163, 164, 165] (by decide +kernel) (by decide +kernel)
set_option maxRecDepth 20000 in
theorem gX5_lay_X1_begin : GoodIn wsX5_lay (wsV RX5 102 RX1 yX1_begin wsX1_begin) := goodIn_app (goodIn_of _ (by decide +kernel)) ggX5_lay_X1_begin
set_option maxRecDepth 20000 in
theorem ggX5_lay_X5_isBarred : GoodIn wsX5_lay wsX5_isBarred := goodIn_r _ [37, 1, 38, 39, 40, 18, 41, 42, 43, 44, 45, 46, 47, 48, 49, 50, 51, 4, 52, 17, 19, 53, 54, 55, 56, 57, 58, 59, 60, 61, 62, 63, 8, 64, 65, 143, 144, 145, 146, 147, 148, 149, 150, 151, 166, 167, 168, 169, 170, 171, 172, 173, 152, 153, 154, 155] (by decide +kernel) (by decide +kernel)
set_option maxRecDepth 20000 in
theorem gX5_lay_X5_isBarred : GoodIn wsX5_lay (wsV RX5 105 RX5 yX5_isBarred wsX5_isBarred) := goodIn_app (goodIn_of _ (by decide +kernel)) ggX5_lay_X5_isBarred
set_option maxRecDepth 20000 in
theorem ggX5_lay_X1_allow : GoodIn wsX5_lay wsX1_allow := goodIn_r _ [69, 70, 71, 23, 72, 73, 74, 75, 76, 27, 77, 78, 79, 80, 28, 29, 26, 25, 81, 82, 83, 84, 85, 86, 87, 159, 160, 161, 162, 163, 164, 165] (by decide +kernel) (by decide +kernel)
set_option maxRecDepth 20000 in
theorem gX5_lay_X1_allow : GoodIn wsX5_lay (wsV RX5 108 RX1 yX1_allow wsX1_allow) := goodIn_app (goodIn_of _ (by decide +kernel)) ggX5_lay_X1_allow
set_option maxRecDepth 20000 in
theorem ggX5_lay_X1_planMost : GoodIn wsX5_lay wsX1_planMost := goodIn_r _ [91, 92, 93, 94, 23, 95, 96, 27, 97, 98, 99, 100, 81, 82, 83, 84, 85, 86, 87, 59, 18, 60, 101, 102, 103, 104, 105, 106, 107, 108, 17, 19, 109, 110, 111, 112, 28, 29, 70, 71, 72, 73, 74, 75, 76, 77, 78, 79, 80, 26, 25, 113, 114, 115, 116, 159, 160, 161, 162, 163, 164, 165] (by decide +kernel) (by decide +kernel)
set_option maxRecDepth 20000 in
theorem gX5_lay_X1_planMost : GoodIn wsX5_lay (wsV RX5 111 RX1 yX1_planMost wsX1_planMost) := goodIn_app (goodIn_of _ (by decide +kernel)) ggX5_lay_X1_planMost
set_option maxRecDepth 20000 in
theorem ggX5_lay_X1_planLeastRow : GoodIn wsX5_lay wsX1_planLeastRow := goodIn_r _ [120, 27, 70, 71, 23, 72, 59, 18, 60, 92, 93, 94, 95, 96, 97, 98, 99, 100, 81, 82, 83, 84, 85, 86, 87, 101, 102, 103, 104, 105, 106, 107, 108, 17, 19, 109, 110, 111, 112, 28, 29, 73, 74, 75, 76, 77, 78, 79, 80, 26, 25, 113, 114, 115, 116, 159, 160, 161, 162, 163, 164, 165] (by decide +kernel) (by decide +kernel)
set_option maxRecDepth 20000 in
theorem gX5_lay_X1_planLeastRow : GoodIn wsX5_lay (wsV RX5 114 RX1 yX1_planLeastRow wsX1_planLeastRow) := goodIn_app (goodIn_of _ (by decide +kernel)) ggX5_lay_X1_planLeastRow
set_option maxRecDepth 20000 in
theorem ggX5_lay_X1_visitorsOf : GoodIn wsX5_lay wsX1_visitorsOf := goodIn_r _ [124, 28, 159, 160, 161, 162, 163, 164, 165] (by decide +kernel) (by decide +kernel)
set_option maxRecDepth 20000 in
theorem gX5_lay_X1_visitorsOf : GoodIn wsX5_lay (wsV RX5 117 RX1 yX1_visitorsOf wsX1_visitorsOf) := goodIn_app (goodIn_of _ (by decide +kernel)) ggX5_lay_X1_visitorsOf
set_option maxRecDepth 20000 in
theorem ggX5_lay_X4_setVisitors : GoodIn wsX5_lay wsX4_setVisitors := goodIn_r _ [128, 129, 152, 153, 154, 155] (by decide +kernel) (by decide +kernel)
set_option maxRecDepth 20000 in
theorem gX5_lay_X4_setVisitors : GoodIn wsX5_lay (wsV RX5 120 RX4 yX4_setVisitors wsX4_setVisitors) := goodIn_app (goodIn_of _ (by decide +kernel)) ggX5_lay_X4_setVisitors
set_option maxRecDepth 20000 in
theorem ggX5_lay_X4_setLaid : GoodIn wsX5_lay wsX4_setLaid := goodIn_r _ [133, 10, 152, 153, 154, 155] (by decide +kernel) (by decide +kernel)
set_option maxRecDepth 20000 in
theorem gX5_lay_X4_setLaid : GoodIn wsX5_lay (wsV RX5 123 RX4 yX4_setLaid wsX4_setLaid) := goodIn_app (goodIn_of _ (by decide +kernel)) ggX5_lay_X4_setLaid
set_option maxRecDepth 20000 in
theorem ggX5_lay_X4_total : GoodIn wsX5_lay wsX4_total := goodIn_r _ [137, 138, 139, 140, 8, 141, 129, 142, 82, 83, 84, 85, 86, 87, 152, 153, 154, 155] (by decide +kernel) (by decide +kernel)
set_option maxRecDepth 20000 in
theorem gX5_lay_X4_total : GoodIn wsX5_lay (wsV RX5 126 RX4 yX4_total wsX4_total) := goodIn_app (goodIn_of _ (by decide +kernel)) ggX5_lay_X4_total
theorem dX5_lay_0 : decode cX5_lay 0 = .ok (.aload_n 0, 1) := by decide +kernel
theorem dX5_lay_1 : decode cX5_lay 1 = .ok (.getfield 26, 3) := by decide +kernel
theorem dX5_lay_4 : decode cX5_lay 4 = .ok (.invokevirtual 95, 3) := by decide +kernel
theorem dX5_lay_7 : decode cX5_lay 7 = .ok (.ifCond .eq 5, 3) := by decide +kernel
theorem dX5_lay_10 : decode cX5_lay 10 = .ok (.iconst (-1), 1) := by decide +kernel
theorem dX5_lay_11 : decode cX5_lay 11 = .ok (.ireturn, 1) := by decide +kernel
theorem dX5_lay_12 : decode cX5_lay 12 = .ok (.aload_n 0, 1) := by decide +kernel
theorem dX5_lay_13 : decode cX5_lay 13 = .ok (.getfield 33, 3) := by decide +kernel
theorem dX5_lay_16 : decode cX5_lay 16 = .ok (.aload_n 0, 1) := by decide +kernel
theorem dX5_lay_17 : decode cX5_lay 17 = .ok (.getfield 19, 3) := by decide +kernel
theorem dX5_lay_20 : decode cX5_lay 20 = .ok (.iconst 0, 1) := by decide +kernel
theorem dX5_lay_21 : decode cX5_lay 21 = .ok (.invokevirtual 98, 3) := by decide +kernel
theorem dX5_lay_24 : decode cX5_lay 24 = .ok (.aload_n 0, 1) := by decide +kernel
theorem dX5_lay_25 : decode cX5_lay 25 = .ok (.getfield 19, 3) := by decide +kernel
theorem dX5_lay_28 : decode cX5_lay 28 = .ok (.iconst 1, 1) := by decide +kernel
theorem dX5_lay_29 : decode cX5_lay 29 = .ok (.invokevirtual 98, 3) := by decide +kernel
theorem dX5_lay_32 : decode cX5_lay 32 = .ok (.invokevirtual 102, 3) := by decide +kernel
theorem dX5_lay_35 : decode cX5_lay 35 = .ok (.iconst 0, 1) := by decide +kernel
theorem dX5_lay_36 : decode cX5_lay 36 = .ok (.istore_n 1, 1) := by decide +kernel
theorem dX5_lay_37 : decode cX5_lay 37 = .ok (.iload_n 1, 1) := by decide +kernel
theorem dX5_lay_38 : decode cX5_lay 38 = .ok (.aload_n 0, 1) := by decide +kernel
theorem dX5_lay_39 : decode cX5_lay 39 = .ok (.getfield 50, 3) := by decide +kernel
theorem dX5_lay_42 : decode cX5_lay 42 = .ok (.if_icmp .ge 43, 3) := by decide +kernel
theorem dX5_lay_45 : decode cX5_lay 45 = .ok (.iconst 0, 1) := by decide +kernel
theorem dX5_lay_46 : decode cX5_lay 46 = .ok (.istore_n 2, 1) := by decide +kernel
theorem dX5_lay_47 : decode cX5_lay 47 = .ok (.iload_n 2, 1) := by decide +kernel
theorem dX5_lay_48 : decode cX5_lay 48 = .ok (.aload_n 0, 1) := by decide +kernel
theorem dX5_lay_49 : decode cX5_lay 49 = .ok (.getfield 50, 3) := by decide +kernel
theorem dX5_lay_52 : decode cX5_lay 52 = .ok (.if_icmp .ge 27, 3) := by decide +kernel
theorem dX5_lay_55 : decode cX5_lay 55 = .ok (.aload_n 0, 1) := by decide +kernel
theorem dX5_lay_56 : decode cX5_lay 56 = .ok (.iload_n 2, 1) := by decide +kernel
theorem dX5_lay_57 : decode cX5_lay 57 = .ok (.iload_n 1, 1) := by decide +kernel
theorem dX5_lay_58 : decode cX5_lay 58 = .ok (.invokevirtual 105, 3) := by decide +kernel
theorem dX5_lay_61 : decode cX5_lay 61 = .ok (.ifCond .ne 12, 3) := by decide +kernel
theorem dX5_lay_64 : decode cX5_lay 64 = .ok (.aload_n 0, 1) := by decide +kernel
theorem dX5_lay_65 : decode cX5_lay 65 = .ok (.getfield 33, 3) := by decide +kernel
theorem dX5_lay_68 : decode cX5_lay 68 = .ok (.iload_n 2, 1) := by decide +kernel
theorem dX5_lay_69 : decode cX5_lay 69 = .ok (.iload_n 1, 1) := by decide +kernel
theorem dX5_lay_70 : decode cX5_lay 70 = .ok (.invokevirtual 108, 3) := by decide +kernel
theorem dX5_lay_73 : decode cX5_lay 73 = .ok (.iinc 2 1, 3) := by decide +kernel
theorem dX5_lay_76 : decode cX5_lay 76 = .ok (.goto (-29), 3) := by decide +kernel
theorem dX5_lay_79 : decode cX5_lay 79 = .ok (.iinc 1 1, 3) := by decide +kernel
theorem dX5_lay_82 : decode cX5_lay 82 = .ok (.goto (-45), 3) := by decide +kernel
theorem dX5_lay_85 : decode cX5_lay 85 = .ok (.aload_n 0, 1) := by decide +kernel
theorem dX5_lay_86 : decode cX5_lay 86 = .ok (.getfield 33, 3) := by decide +kernel
theorem dX5_lay_89 : decode cX5_lay 89 = .ok (.invokevirtual 111, 3) := by decide +kernel
theorem dX5_lay_92 : decode cX5_lay 92 = .ok (.aload_n 0, 1) := by decide +kernel
theorem dX5_lay_93 : decode cX5_lay 93 = .ok (.getfield 33, 3) := by decide +kernel
theorem dX5_lay_96 : decode cX5_lay 96 = .ok (.aload_n 0, 1) := by decide +kernel
theorem dX5_lay_97 : decode cX5_lay 97 = .ok (.getfield 50, 3) := by decide +kernel
theorem dX5_lay_100 : decode cX5_lay 100 = .ok (.invokevirtual 114, 3) := by decide +kernel
theorem dX5_lay_103 : decode cX5_lay 103 = .ok (.iconst 0, 1) := by decide +kernel
theorem dX5_lay_104 : decode cX5_lay 104 = .ok (.istore_n 1, 1) := by decide +kernel
theorem dX5_lay_105 : decode cX5_lay 105 = .ok (.iload_n 1, 1) := by decide +kernel
theorem dX5_lay_106 : decode cX5_lay 106 = .ok (.aload_n 0, 1) := by decide +kernel
theorem dX5_lay_107 : decode cX5_lay 107 = .ok (.getfield 50, 3) := by decide +kernel
theorem dX5_lay_110 : decode cX5_lay 110 = .ok (.if_icmp .ge 25, 3) := by decide +kernel
theorem dX5_lay_113 : decode cX5_lay 113 = .ok (.aload_n 0, 1) := by decide +kernel
theorem dX5_lay_114 : decode cX5_lay 114 = .ok (.getfield 26, 3) := by decide +kernel
theorem dX5_lay_117 : decode cX5_lay 117 = .ok (.iload_n 1, 1) := by decide +kernel
theorem dX5_lay_118 : decode cX5_lay 118 = .ok (.aload_n 0, 1) := by decide +kernel
theorem dX5_lay_119 : decode cX5_lay 119 = .ok (.getfield 33, 3) := by decide +kernel
theorem dX5_lay_122 : decode cX5_lay 122 = .ok (.iload_n 1, 1) := by decide +kernel
theorem dX5_lay_123 : decode cX5_lay 123 = .ok (.invokevirtual 117, 3) := by decide +kernel
theorem dX5_lay_126 : decode cX5_lay 126 = .ok (.invokevirtual 120, 3) := by decide +kernel
theorem dX5_lay_129 : decode cX5_lay 129 = .ok (.iinc 1 1, 3) := by decide +kernel
theorem dX5_lay_132 : decode cX5_lay 132 = .ok (.goto (-27), 3) := by decide +kernel
theorem dX5_lay_135 : decode cX5_lay 135 = .ok (.aload_n 0, 1) := by decide +kernel
theorem dX5_lay_136 : decode cX5_lay 136 = .ok (.getfield 26, 3) := by decide +kernel
theorem dX5_lay_139 : decode cX5_lay 139 = .ok (.invokevirtual 123, 3) := by decide +kernel
theorem dX5_lay_142 : decode cX5_lay 142 = .ok (.aload_n 0, 1) := by decide +kernel
theorem dX5_lay_143 : decode cX5_lay 143 = .ok (.getfield 26, 3) := by decide +kernel
theorem dX5_lay_146 : decode cX5_lay 146 = .ok (.invokevirtual 126, 3) := by decide +kernel
theorem dX5_lay_149 : decode cX5_lay 149 = .ok (.ireturn, 1) := by decide +kernel
set_option maxRecDepth 20000 in
theorem ggX5_visitor_X5_isFarm : GoodIn wsX5_visitor wsX5_isFarm := goodIn_r _ [6, 7, 8, 9, 5, 10, 23, 24, 25, 26, 27, 28, 29, 30, 31] (by decide +kernel) (by decide +kernel)
set_option maxRecDepth 20000 in
theorem gX5_visitor_X5_isFarm : GoodIn wsX5_visitor (wsV RX5 129 RX5 yX5_isFarm wsX5_isFarm) := goodIn_app (goodIn_of _ (by decide +kernel)) ggX5_visitor_X5_isFarm
set_option maxRecDepth 20000 in
theorem ggX5_visitor_X4_visitorAt : GoodIn wsX5_visitor wsX4_visitorAt := goodIn_r _ [15, 16, 17, 18, 14, 19, 20, 21, 5, 22, 32, 33, 34, 35] (by decide +kernel) (by decide +kernel)
set_option maxRecDepth 20000 in
theorem gX5_visitor_X4_visitorAt : GoodIn wsX5_visitor (wsV RX5 133 RX4 yX4_visitorAt wsX4_visitorAt) := goodIn_app (goodIn_of _ (by decide +kernel)) ggX5_visitor_X4_visitorAt
theorem dX5_visitor_0 : decode cX5_visitor 0 = .ok (.aload_n 0, 1) := by decide +kernel
theorem dX5_visitor_1 : decode cX5_visitor 1 = .ok (.iload_n 1, 1) := by decide +kernel
theorem dX5_visitor_2 : decode cX5_visitor 2 = .ok (.invokevirtual 129, 3) := by decide +kernel
theorem dX5_visitor_5 : decode cX5_visitor 5 = .ok (.ifCond .ne 5, 3) := by decide +kernel
theorem dX5_visitor_8 : decode cX5_visitor 8 = .ok (.iconst (-1), 1) := by decide +kernel
theorem dX5_visitor_9 : decode cX5_visitor 9 = .ok (.ireturn, 1) := by decide +kernel
theorem dX5_visitor_10 : decode cX5_visitor 10 = .ok (.aload_n 0, 1) := by decide +kernel
theorem dX5_visitor_11 : decode cX5_visitor 11 = .ok (.getfield 26, 3) := by decide +kernel
theorem dX5_visitor_14 : decode cX5_visitor 14 = .ok (.iload_n 1, 1) := by decide +kernel
theorem dX5_visitor_15 : decode cX5_visitor 15 = .ok (.iload_n 2, 1) := by decide +kernel
theorem dX5_visitor_16 : decode cX5_visitor 16 = .ok (.invokevirtual 133, 3) := by decide +kernel
theorem dX5_visitor_19 : decode cX5_visitor 19 = .ok (.ireturn, 1) := by decide +kernel
set_option maxRecDepth 20000 in
theorem ggX5_tells_X5_areFarms : GoodIn wsX5_tells wsX5_areFarms := goodIn_r _ [6, 7, 8, 9, 5, 10, 11, 12, 13, 14, 28, 29, 30, 31, 32, 33, 34, 35, 36] (by decide +kernel) (by decide +kernel)
set_option maxRecDepth 20000 in
theorem gX5_tells_X5_areFarms : GoodIn wsX5_tells (wsV RX5 89 RX5 yX5_areFarms wsX5_areFarms) := goodIn_app (goodIn_of _ (by decide +kernel)) ggX5_tells_X5_areFarms
set_option maxRecDepth 20000 in
theorem ggX5_tells_X5_isBelow : GoodIn wsX5_tells wsX5_isBelow := goodIn_r _ [14] (by decide +kernel) (by decide +kernel)
set_option maxRecDepth 20000 in
theorem gX5_tells_X5_isBelow : GoodIn wsX5_tells (va_wsS RX5 82 yX5_isBelow wsX5_isBelow) := goodIn_app (goodIn_of _ (by decide +kernel)) ggX5_tells_X5_isBelow
set_option maxRecDepth 20000 in
theorem ggX5_tells_X4_isVisitor : GoodIn wsX5_tells wsX4_isVisitor := goodIn_r _ [19, 20, 21, 5, 22, 37, 38, 39, 40] (by decide +kernel) (by decide +kernel)
set_option maxRecDepth 20000 in
theorem gX5_tells_X4_isVisitor : GoodIn wsX5_tells (wsV RX5 137 RX4 yX4_isVisitor wsX4_isVisitor) := goodIn_app (goodIn_of _ (by decide +kernel)) ggX5_tells_X4_isVisitor
set_option maxRecDepth 20000 in
theorem ggX5_tells_X4_tell : GoodIn wsX5_tells wsX4_tell := goodIn_r _ [26, 27, 37, 38, 39, 40] (by decide +kernel) (by decide +kernel)
set_option maxRecDepth 20000 in
theorem gX5_tells_X4_tell : GoodIn wsX5_tells (wsV RX5 140 RX4 yX4_tell wsX4_tell) := goodIn_app (goodIn_of _ (by decide +kernel)) ggX5_tells_X4_tell
theorem dX5_tells_0 : decode cX5_tells 0 = .ok (.aload_n 0, 1) := by decide +kernel
theorem dX5_tells_1 : decode cX5_tells 1 = .ok (.iload_n 1, 1) := by decide +kernel
theorem dX5_tells_2 : decode cX5_tells 2 = .ok (.iload_n 2, 1) := by decide +kernel
theorem dX5_tells_3 : decode cX5_tells 3 = .ok (.invokevirtual 89, 3) := by decide +kernel
theorem dX5_tells_6 : decode cX5_tells 6 = .ok (.ifCond .eq 24, 3) := by decide +kernel
theorem dX5_tells_9 : decode cX5_tells 9 = .ok (.iload_n 3, 1) := by decide +kernel
theorem dX5_tells_10 : decode cX5_tells 10 = .ok (.bipush 8, 2) := by decide +kernel
theorem dX5_tells_12 : decode cX5_tells 12 = .ok (.invokestatic 82, 3) := by decide +kernel
theorem dX5_tells_15 : decode cX5_tells 15 = .ok (.ifCond .eq 15, 3) := by decide +kernel
theorem dX5_tells_18 : decode cX5_tells 18 = .ok (.aload_n 0, 1) := by decide +kernel
theorem dX5_tells_19 : decode cX5_tells 19 = .ok (.getfield 26, 3) := by decide +kernel
theorem dX5_tells_22 : decode cX5_tells 22 = .ok (.iload_n 1, 1) := by decide +kernel
theorem dX5_tells_23 : decode cX5_tells 23 = .ok (.iload_n 2, 1) := by decide +kernel
theorem dX5_tells_24 : decode cX5_tells 24 = .ok (.invokevirtual 137, 3) := by decide +kernel
theorem dX5_tells_27 : decode cX5_tells 27 = .ok (.ifCond .ne 5, 3) := by decide +kernel
theorem dX5_tells_30 : decode cX5_tells 30 = .ok (.iconst 0, 1) := by decide +kernel
theorem dX5_tells_31 : decode cX5_tells 31 = .ok (.ireturn, 1) := by decide +kernel
theorem dX5_tells_32 : decode cX5_tells 32 = .ok (.aload_n 0, 1) := by decide +kernel
theorem dX5_tells_33 : decode cX5_tells 33 = .ok (.getfield 26, 3) := by decide +kernel
theorem dX5_tells_36 : decode cX5_tells 36 = .ok (.iload_n 1, 1) := by decide +kernel
theorem dX5_tells_37 : decode cX5_tells 37 = .ok (.iload_n 2, 1) := by decide +kernel
theorem dX5_tells_38 : decode cX5_tells 38 = .ok (.iload_n 3, 1) := by decide +kernel
theorem dX5_tells_39 : decode cX5_tells 39 = .ok (.iload 4, 2) := by decide +kernel
theorem dX5_tells_41 : decode cX5_tells 41 = .ok (.invokevirtual 140, 3) := by decide +kernel
theorem dX5_tells_44 : decode cX5_tells 44 = .ok (.iconst 1, 1) := by decide +kernel
theorem dX5_tells_45 : decode cX5_tells 45 = .ok (.ireturn, 1) := by decide +kernel
set_option maxRecDepth 20000 in
theorem ggX5_breaches_X5_isFarm : GoodIn wsX5_breaches wsX5_isFarm := goodIn_r _ [6, 7, 8, 9, 5, 10, 17, 18, 19, 20, 21, 22, 23, 24, 25] (by decide +kernel) (by decide +kernel)
set_option maxRecDepth 20000 in
theorem gX5_breaches_X5_isFarm : GoodIn wsX5_breaches (wsV RX5 129 RX5 yX5_isFarm wsX5_isFarm) := goodIn_app (goodIn_of _ (by decide +kernel)) ggX5_breaches_X5_isFarm
set_option maxRecDepth 20000 in
theorem ggX5_breaches_X4_breachesAt : GoodIn wsX5_breaches wsX4_breachesAt := goodIn_r _ [15, 16, 26, 27, 28, 29] (by decide +kernel) (by decide +kernel)
set_option maxRecDepth 20000 in
theorem gX5_breaches_X4_breachesAt : GoodIn wsX5_breaches (wsV RX5 144 RX4 yX4_breachesAt wsX4_breachesAt) := goodIn_app (goodIn_of _ (by decide +kernel)) ggX5_breaches_X4_breachesAt
theorem dX5_breaches_0 : decode cX5_breaches 0 = .ok (.aload_n 0, 1) := by decide +kernel
theorem dX5_breaches_1 : decode cX5_breaches 1 = .ok (.iload_n 1, 1) := by decide +kernel
theorem dX5_breaches_2 : decode cX5_breaches 2 = .ok (.invokevirtual 129, 3) := by decide +kernel
theorem dX5_breaches_5 : decode cX5_breaches 5 = .ok (.ifCond .ne 5, 3) := by decide +kernel
theorem dX5_breaches_8 : decode cX5_breaches 8 = .ok (.iconst (-1), 1) := by decide +kernel
theorem dX5_breaches_9 : decode cX5_breaches 9 = .ok (.ireturn, 1) := by decide +kernel
theorem dX5_breaches_10 : decode cX5_breaches 10 = .ok (.aload_n 0, 1) := by decide +kernel
theorem dX5_breaches_11 : decode cX5_breaches 11 = .ok (.getfield 26, 3) := by decide +kernel
theorem dX5_breaches_14 : decode cX5_breaches 14 = .ok (.iload_n 1, 1) := by decide +kernel
theorem dX5_breaches_15 : decode cX5_breaches 15 = .ok (.invokevirtual 144, 3) := by decide +kernel
theorem dX5_breaches_18 : decode cX5_breaches 18 = .ok (.ireturn, 1) := by decide +kernel
set_option maxRecDepth 20000 in
theorem ggX5_weighs_X5_isFarm : GoodIn wsX5_weighs wsX5_isFarm := goodIn_r _ [6, 7, 8, 9, 5, 10, 25, 26, 27, 28, 29, 30, 31, 32, 33] (by decide +kernel) (by decide +kernel)
set_option maxRecDepth 20000 in
theorem gX5_weighs_X5_isFarm : GoodIn wsX5_weighs (wsV RX5 129 RX5 yX5_isFarm wsX5_isFarm) := goodIn_app (goodIn_of _ (by decide +kernel)) ggX5_weighs_X5_isFarm
set_option maxRecDepth 20000 in
theorem ggX5_weighs_X4_breachesAt : GoodIn wsX5_weighs wsX4_breachesAt := goodIn_r _ [15, 16, 34, 35, 36, 37] (by decide +kernel) (by decide +kernel)
set_option maxRecDepth 20000 in
theorem gX5_weighs_X4_breachesAt : GoodIn wsX5_weighs (wsV RX5 144 RX4 yX4_breachesAt wsX4_breachesAt) := goodIn_app (goodIn_of _ (by decide +kernel)) ggX5_weighs_X4_breachesAt
set_option maxRecDepth 20000 in
theorem ggX5_weighs_X5_weightOf : GoodIn wsX5_weighs wsX5_weightOf := goodIn_r _ [20, 21, 22, 23, 5, 24, 25, 26, 27, 28, 29, 30, 31, 32, 33] (by decide +kernel) (by decide +kernel)
set_option maxRecDepth 20000 in
theorem gX5_weighs_X5_weightOf : GoodIn wsX5_weighs (wsV RX5 147 RX5 yX5_weightOf wsX5_weightOf) := goodIn_app (goodIn_of _ (by decide +kernel)) ggX5_weighs_X5_weightOf
theorem dX5_weighs_0 : decode cX5_weighs 0 = .ok (.aload_n 0, 1) := by decide +kernel
theorem dX5_weighs_1 : decode cX5_weighs 1 = .ok (.iload_n 1, 1) := by decide +kernel
theorem dX5_weighs_2 : decode cX5_weighs 2 = .ok (.invokevirtual 129, 3) := by decide +kernel
theorem dX5_weighs_5 : decode cX5_weighs 5 = .ok (.ifCond .ne 5, 3) := by decide +kernel
theorem dX5_weighs_8 : decode cX5_weighs 8 = .ok (.iconst (-1), 1) := by decide +kernel
theorem dX5_weighs_9 : decode cX5_weighs 9 = .ok (.ireturn, 1) := by decide +kernel
theorem dX5_weighs_10 : decode cX5_weighs 10 = .ok (.aload_n 0, 1) := by decide +kernel
theorem dX5_weighs_11 : decode cX5_weighs 11 = .ok (.aload_n 0, 1) := by decide +kernel
theorem dX5_weighs_12 : decode cX5_weighs 12 = .ok (.getfield 26, 3) := by decide +kernel
theorem dX5_weighs_15 : decode cX5_weighs 15 = .ok (.iload_n 1, 1) := by decide +kernel
theorem dX5_weighs_16 : decode cX5_weighs 16 = .ok (.invokevirtual 144, 3) := by decide +kernel
theorem dX5_weighs_19 : decode cX5_weighs 19 = .ok (.invokevirtual 147, 3) := by decide +kernel
theorem dX5_weighs_22 : decode cX5_weighs 22 = .ok (.ireturn, 1) := by decide +kernel
set_option maxRecDepth 20000 in
theorem ggX5_vouches_X5_areFarms : GoodIn wsX5_vouches wsX5_areFarms := goodIn_r _ [6, 7, 8, 9, 5, 10, 11, 12, 13, 14, 28, 29, 30, 31, 32, 33, 34, 35, 36] (by decide +kernel) (by decide +kernel)
set_option maxRecDepth 20000 in
theorem gX5_vouches_X5_areFarms : GoodIn wsX5_vouches (wsV RX5 89 RX5 yX5_areFarms wsX5_areFarms) := goodIn_app (goodIn_of _ (by decide +kernel)) ggX5_vouches_X5_areFarms
set_option maxRecDepth 20000 in
theorem ggX5_vouches_X4_vouchersFor : GoodIn wsX5_vouches wsX4_vouchersFor := goodIn_r _ [19, 20, 21, 37, 38, 39, 40] (by decide +kernel) (by decide +kernel)
set_option maxRecDepth 20000 in
theorem gX5_vouches_X4_vouchersFor : GoodIn wsX5_vouches (wsV RX5 150 RX4 yX4_vouchersFor wsX4_vouchersFor) := goodIn_app (goodIn_of _ (by decide +kernel)) ggX5_vouches_X4_vouchersFor
set_option maxRecDepth 20000 in
theorem ggX5_vouches_X5_hasBit : GoodIn wsX5_vouches wsX5_hasBit := goodIn_r _ [24] (by decide +kernel) (by decide +kernel)
set_option maxRecDepth 20000 in
theorem gX5_vouches_X5_hasBit : GoodIn wsX5_vouches (va_wsS RX5 153 yX5_hasBit wsX5_hasBit) := goodIn_app (goodIn_of _ (by decide +kernel)) ggX5_vouches_X5_hasBit
set_option maxRecDepth 20000 in
theorem ggX5_vouches_X5_oneIf : GoodIn wsX5_vouches wsX5_oneIf := goodIn_r _ [27] (by decide +kernel) (by decide +kernel)
set_option maxRecDepth 20000 in
theorem gX5_vouches_X5_oneIf : GoodIn wsX5_vouches (va_wsS RX5 156 yX5_oneIf wsX5_oneIf) := goodIn_app (goodIn_of _ (by decide +kernel)) ggX5_vouches_X5_oneIf
theorem dX5_vouches_0 : decode cX5_vouches 0 = .ok (.aload_n 0, 1) := by decide +kernel
theorem dX5_vouches_1 : decode cX5_vouches 1 = .ok (.iload_n 1, 1) := by decide +kernel
theorem dX5_vouches_2 : decode cX5_vouches 2 = .ok (.iload_n 2, 1) := by decide +kernel
theorem dX5_vouches_3 : decode cX5_vouches 3 = .ok (.invokevirtual 89, 3) := by decide +kernel
theorem dX5_vouches_6 : decode cX5_vouches 6 = .ok (.ifCond .ne 5, 3) := by decide +kernel
theorem dX5_vouches_9 : decode cX5_vouches 9 = .ok (.iconst (-1), 1) := by decide +kernel
theorem dX5_vouches_10 : decode cX5_vouches 10 = .ok (.ireturn, 1) := by decide +kernel
theorem dX5_vouches_11 : decode cX5_vouches 11 = .ok (.aload_n 0, 1) := by decide +kernel
theorem dX5_vouches_12 : decode cX5_vouches 12 = .ok (.getfield 26, 3) := by decide +kernel
theorem dX5_vouches_15 : decode cX5_vouches 15 = .ok (.iload_n 2, 1) := by decide +kernel
theorem dX5_vouches_16 : decode cX5_vouches 16 = .ok (.invokevirtual 150, 3) := by decide +kernel
theorem dX5_vouches_19 : decode cX5_vouches 19 = .ok (.iload_n 1, 1) := by decide +kernel
theorem dX5_vouches_20 : decode cX5_vouches 20 = .ok (.invokestatic 153, 3) := by decide +kernel
theorem dX5_vouches_23 : decode cX5_vouches 23 = .ok (.invokestatic 156, 3) := by decide +kernel
theorem dX5_vouches_26 : decode cX5_vouches 26 = .ok (.ireturn, 1) := by decide +kernel
set_option maxRecDepth 20000 in
theorem ggX5_trust_X5_areFarms : GoodIn wsX5_trust wsX5_areFarms := goodIn_r _ [6, 7, 8, 9, 5, 10, 11, 12, 13, 14, 29, 30, 31, 32, 33, 34, 35, 36, 37] (by decide +kernel) (by decide +kernel)
set_option maxRecDepth 20000 in
theorem gX5_trust_X5_areFarms : GoodIn wsX5_trust (wsV RX5 89 RX5 yX5_areFarms wsX5_areFarms) := goodIn_app (goodIn_of _ (by decide +kernel)) ggX5_trust_X5_areFarms
set_option maxRecDepth 20000 in
theorem ggX5_trust_X5_hasBit : GoodIn wsX5_trust wsX5_hasBit := goodIn_r _ [17] (by decide +kernel) (by decide +kernel)
set_option maxRecDepth 20000 in
theorem gX5_trust_X5_hasBit : GoodIn wsX5_trust (va_wsS RX5 153 yX5_hasBit wsX5_hasBit) := goodIn_app (goodIn_of _ (by decide +kernel)) ggX5_trust_X5_hasBit
set_option maxRecDepth 20000 in
theorem ggX5_trust_X4_vouchedForBy : GoodIn wsX5_trust wsX4_vouchedForBy := goodIn_r _ [22, 23, 24, 25, 21, 26, 27, 28, 38, 39, 40, 41] (by decide +kernel) (by decide +kernel)
set_option maxRecDepth 20000 in
theorem gX5_trust_X4_vouchedForBy : GoodIn wsX5_trust (wsV RX5 160 RX4 yX4_vouchedForBy wsX4_vouchedForBy) := goodIn_app (goodIn_of _ (by decide +kernel)) ggX5_trust_X4_vouchedForBy
theorem dX5_trust_0 : decode cX5_trust 0 = .ok (.aload_n 0, 1) := by decide +kernel
theorem dX5_trust_1 : decode cX5_trust 1 = .ok (.iload_n 1, 1) := by decide +kernel
theorem dX5_trust_2 : decode cX5_trust 2 = .ok (.iload_n 2, 1) := by decide +kernel
theorem dX5_trust_3 : decode cX5_trust 3 = .ok (.invokevirtual 89, 3) := by decide +kernel
theorem dX5_trust_6 : decode cX5_trust 6 = .ok (.ifCond .ne 5, 3) := by decide +kernel
theorem dX5_trust_9 : decode cX5_trust 9 = .ok (.iconst (-1), 1) := by decide +kernel
theorem dX5_trust_10 : decode cX5_trust 10 = .ok (.ireturn, 1) := by decide +kernel
theorem dX5_trust_11 : decode cX5_trust 11 = .ok (.iconst 1, 1) := by decide +kernel
theorem dX5_trust_12 : decode cX5_trust 12 = .ok (.iload_n 1, 1) := by decide +kernel
theorem dX5_trust_13 : decode cX5_trust 13 = .ok (.ishl, 1) := by decide +kernel
theorem dX5_trust_14 : decode cX5_trust 14 = .ok (.istore_n 3, 1) := by decide +kernel
theorem dX5_trust_15 : decode cX5_trust 15 = .ok (.iconst 0, 1) := by decide +kernel
theorem dX5_trust_16 : decode cX5_trust 16 = .ok (.istore 4, 2) := by decide +kernel
theorem dX5_trust_18 : decode cX5_trust 18 = .ok (.iload 4, 2) := by decide +kernel
theorem dX5_trust_20 : decode cX5_trust 20 = .ok (.bipush 10, 2) := by decide +kernel
theorem dX5_trust_22 : decode cX5_trust 22 = .ok (.if_icmp .ge 31, 3) := by decide +kernel
theorem dX5_trust_25 : decode cX5_trust 25 = .ok (.iload_n 3, 1) := by decide +kernel
theorem dX5_trust_26 : decode cX5_trust 26 = .ok (.iload_n 2, 1) := by decide +kernel
theorem dX5_trust_27 : decode cX5_trust 27 = .ok (.invokestatic 153, 3) := by decide +kernel
theorem dX5_trust_30 : decode cX5_trust 30 = .ok (.ifCond .eq 6, 3) := by decide +kernel
theorem dX5_trust_33 : decode cX5_trust 33 = .ok (.iload 4, 2) := by decide +kernel
theorem dX5_trust_35 : decode cX5_trust 35 = .ok (.ireturn, 1) := by decide +kernel
theorem dX5_trust_36 : decode cX5_trust 36 = .ok (.iload_n 3, 1) := by decide +kernel
theorem dX5_trust_37 : decode cX5_trust 37 = .ok (.aload_n 0, 1) := by decide +kernel
theorem dX5_trust_38 : decode cX5_trust 38 = .ok (.getfield 26, 3) := by decide +kernel
theorem dX5_trust_41 : decode cX5_trust 41 = .ok (.iload_n 3, 1) := by decide +kernel
theorem dX5_trust_42 : decode cX5_trust 42 = .ok (.invokevirtual 160, 3) := by decide +kernel
theorem dX5_trust_45 : decode cX5_trust 45 = .ok (.ior, 1) := by decide +kernel
theorem dX5_trust_46 : decode cX5_trust 46 = .ok (.istore_n 3, 1) := by decide +kernel
theorem dX5_trust_47 : decode cX5_trust 47 = .ok (.iinc 4 1, 3) := by decide +kernel
theorem dX5_trust_50 : decode cX5_trust 50 = .ok (.goto (-32), 3) := by decide +kernel
theorem dX5_trust_53 : decode cX5_trust 53 = .ok (.iconst (-1), 1) := by decide +kernel
theorem dX5_trust_54 : decode cX5_trust 54 = .ok (.ireturn, 1) := by decide +kernel
set_option maxRecDepth 20000 in
theorem ggX5_sell_X5_farmAt : GoodIn wsX5_sell wsX5_farmAt := goodIn_r _ [6, 7, 8, 9, 10, 5, 11, 12, 13, 14, 15, 31, 32, 33, 34, 35, 36, 37, 38, 39] (by decide +kernel) (by decide +kernel)
set_option maxRecDepth 20000 in
theorem gX5_sell_X5_farmAt : GoodIn wsX5_sell (wsV RX5 163 RX5 yX5_farmAt wsX5_farmAt) := goodIn_app (goodIn_of _ (by decide +kernel)) ggX5_sell_X5_farmAt
set_option maxRecDepth 20000 in
theorem ggX5_sell_X0_sellBaskets : GoodIn wsX5_sell wsX0_sellBaskets := goodIn_r _ [20, 21, 22, 23, 24, 25, 26, 27, 28, 29, 30] (by decide +kernel) (by decide +kernel)
set_option maxRecDepth 20000 in
theorem gX5_sell_X0_sellBaskets : GoodIn wsX5_sell (wsV RX5 171 RX0 yX0_sellBaskets wsX0_sellBaskets) := goodIn_app (goodIn_of _ (by decide +kernel)) ggX5_sell_X0_sellBaskets
theorem dX5_sell_0 : decode cX5_sell 0 = .ok (.aload_n 0, 1) := by decide +kernel
theorem dX5_sell_1 : decode cX5_sell 1 = .ok (.iload_n 1, 1) := by decide +kernel
theorem dX5_sell_2 : decode cX5_sell 2 = .ok (.invokevirtual 163, 3) := by decide +kernel
theorem dX5_sell_5 : decode cX5_sell 5 = .ok (.astore_n 3, 1) := by decide +kernel
theorem dX5_sell_6 : decode cX5_sell 6 = .ok (.aload_n 3, 1) := by decide +kernel
theorem dX5_sell_7 : decode cX5_sell 7 = .ok (.ifnull 22, 3) := by decide +kernel
theorem dX5_sell_10 : decode cX5_sell 10 = .ok (.iload_n 2, 1) := by decide +kernel
theorem dX5_sell_11 : decode cX5_sell 11 = .ok (.iconst 1, 1) := by decide +kernel
theorem dX5_sell_12 : decode cX5_sell 12 = .ok (.if_icmp .lt 17, 3) := by decide +kernel
theorem dX5_sell_15 : decode cX5_sell 15 = .ok (.iload_n 2, 1) := by decide +kernel
theorem dX5_sell_16 : decode cX5_sell 16 = .ok (.sipush 10000, 3) := by decide +kernel
theorem dX5_sell_19 : decode cX5_sell 19 = .ok (.if_icmp .gt 10, 3) := by decide +kernel
theorem dX5_sell_22 : decode cX5_sell 22 = .ok (.aload_n 3, 1) := by decide +kernel
theorem dX5_sell_23 : decode cX5_sell 23 = .ok (.getfield 167, 3) := by decide +kernel
theorem dX5_sell_26 : decode cX5_sell 26 = .ok (.ifCond .ne 5, 3) := by decide +kernel
theorem dX5_sell_29 : decode cX5_sell 29 = .ok (.iconst 0, 1) := by decide +kernel
theorem dX5_sell_30 : decode cX5_sell 30 = .ok (.ireturn, 1) := by decide +kernel
theorem dX5_sell_31 : decode cX5_sell 31 = .ok (.aload_n 3, 1) := by decide +kernel
theorem dX5_sell_32 : decode cX5_sell 32 = .ok (.iload_n 2, 1) := by decide +kernel
theorem dX5_sell_33 : decode cX5_sell 33 = .ok (.invokevirtual 171, 3) := by decide +kernel
theorem dX5_sell_36 : decode cX5_sell 36 = .ok (.iconst 1, 1) := by decide +kernel
theorem dX5_sell_37 : decode cX5_sell 37 = .ok (.ireturn, 1) := by decide +kernel
set_option maxRecDepth 20000 in
theorem ggX5_year_X4_areLaid : GoodIn wsX5_year wsX4_areLaid := goodIn_r _ [9, 10, 99, 100, 101, 102] (by decide +kernel) (by decide +kernel)
set_option maxRecDepth 20000 in
theorem gX5_year_X4_areLaid : GoodIn wsX5_year (wsV RX5 95 RX4 yX4_areLaid wsX4_areLaid) := goodIn_app (goodIn_of _ (by decide +kernel)) ggX5_year_X4_areLaid
set_option maxRecDepth 20000 in
theorem ggX5_year_X5_farmAt : GoodIn wsX5_year wsX5_farmAt := goodIn_r _ [15, 16, 17, 18, 19, 14, 20, 3, 21, 22, 23, 90, 91, 92, 93, 94, 95, 96, 97, 98] (by decide +kernel) (by decide +kernel)
set_option maxRecDepth 20000 in
theorem gX5_year_X5_farmAt : GoodIn wsX5_year (wsV RX5 163 RX5 yX5_farmAt wsX5_farmAt) := goodIn_app (goodIn_of _ (by decide +kernel)) ggX5_year_X5_farmAt
set_option maxRecDepth 20000 in
theorem ggX5_year_X4_breachesAt : GoodIn wsX5_year wsX4_breachesAt := goodIn_r _ [27, 28, 99, 100, 101, 102] (by decide +kernel) (by decide +kernel)
set_option maxRecDepth 20000 in
theorem gX5_year_X4_breachesAt : GoodIn wsX5_year (wsV RX5 144 RX4 yX4_breachesAt wsX4_breachesAt) := goodIn_app (goodIn_of _ (by decide +kernel)) ggX5_year_X4_breachesAt
set_option maxRecDepth 20000 in
theorem ggX5_year_X0_countDoubtful : GoodIn wsX5_year wsX0_countDoubtful := goodIn_r _ [33, 34, 35, 103, 104, 105, 106, 107, 108, 109, 110] (by decide +kernel) (by decide +kernel)
set_option maxRecDepth 20000 in
theorem gX5_year_X0_countDoubtful : GoodIn wsX5_year (wsV RX5 174 RX0 yX0_countDoubtful wsX0_countDoubtful) := goodIn_app (goodIn_of _ (by decide +kernel)) ggX5_year_X0_countDoubtful
set_option maxRecDepth 20000 in
theorem ggX5_year_X5_weightOf : GoodIn wsX5_year wsX5_weightOf := goodIn_r _ [39, 40, 41, 42, 14, 43, 90, 91, 92, 93, 94, 95, 96, 97, 98] (by decide +kernel) (by decide +kernel)
set_option maxRecDepth 20000 in
theorem gX5_year_X5_weightOf : GoodIn wsX5_year (wsV RX5 147 RX5 yX5_weightOf wsX5_weightOf) := goodIn_app (goodIn_of _ (by decide +kernel)) ggX5_year_X5_weightOf
set_option maxRecDepth 20000 in
theorem ggX5_year_X4_visitorCount : GoodIn wsX5_year wsX4_visitorCount := goodIn_r _ [47, 48, 49, 50, 51, 52, 53, 54, 55, 99, 100, 101, 102] (by decide +kernel) (by decide +kernel)
set_option maxRecDepth 20000 in
theorem gX5_year_X4_visitorCount : GoodIn wsX5_year (wsV RX5 178 RX4 yX4_visitorCount wsX4_visitorCount) := goodIn_app (goodIn_of _ (by decide +kernel)) ggX5_year_X4_visitorCount
set_option maxRecDepth 20000 in
theorem ggX5_year_X0_goOn : GoodIn wsX5_year wsX0_goOn := goodIn_r _ [59, 60, 61, 62, 63, 64, 65, 32, 66, 67, 68, 69, 70, 71, 72, 73, 74, 75, 76, 22, 14, 23, 103, 104, 105, 106, 107, 108, 109, 110, 111, 112, 113] (by decide +kernel) (by decide +kernel)
set_option maxRecDepth 20000 in
theorem gX5_year_X0_goOn : GoodIn wsX5_year (wsV RX5 181 RX0 yX0_goOn wsX0_goOn) := goodIn_app (goodIn_of _ (by decide +kernel)) ggX5_year_X0_goOn
set_option maxRecDepth 20000 in
theorem ggX5_year_X4_endYear : GoodIn wsX5_year wsX4_endYear := goodIn_r _ [80, 48, 81, 82, 83, 84, 85, 28, 10, 86, 87, 88, 89, 99, 100, 101, 102] (by decide +kernel) (by decide +kernel)
set_option maxRecDepth 20000 in
theorem gX5_year_X4_endYear : GoodIn wsX5_year (wsV RX5 185 RX4 yX4_endYear wsX4_endYear) := goodIn_app (goodIn_of _ (by decide +kernel)) ggX5_year_X4_endYear
theorem dX5_year_0 : decode cX5_year 0 = .ok (.aload_n 0, 1) := by decide +kernel
theorem dX5_year_1 : decode cX5_year 1 = .ok (.getfield 26, 3) := by decide +kernel
theorem dX5_year_4 : decode cX5_year 4 = .ok (.invokevirtual 95, 3) := by decide +kernel
theorem dX5_year_7 : decode cX5_year 7 = .ok (.ifCond .eq 13, 3) := by decide +kernel
theorem dX5_year_10 : decode cX5_year 10 = .ok (.aload_n 0, 1) := by decide +kernel
theorem dX5_year_11 : decode cX5_year 11 = .ok (.getfield 54, 3) := by decide +kernel
theorem dX5_year_14 : decode cX5_year 14 = .ok (.sipush 500, 3) := by decide +kernel
theorem dX5_year_17 : decode cX5_year 17 = .ok (.if_icmp .lt 5, 3) := by decide +kernel
theorem dX5_year_20 : decode cX5_year 20 = .ok (.iconst (-1), 1) := by decide +kernel
theorem dX5_year_21 : decode cX5_year 21 = .ok (.ireturn, 1) := by decide +kernel
theorem dX5_year_22 : decode cX5_year 22 = .ok (.iconst 0, 1) := by decide +kernel
theorem dX5_year_23 : decode cX5_year 23 = .ok (.istore_n 1, 1) := by decide +kernel
theorem dX5_year_24 : decode cX5_year 24 = .ok (.iload_n 1, 1) := by decide +kernel
theorem dX5_year_25 : decode cX5_year 25 = .ok (.aload_n 0, 1) := by decide +kernel
theorem dX5_year_26 : decode cX5_year 26 = .ok (.getfield 50, 3) := by decide +kernel
theorem dX5_year_29 : decode cX5_year 29 = .ok (.if_icmp .ge 62, 3) := by decide +kernel
theorem dX5_year_32 : decode cX5_year 32 = .ok (.aload_n 0, 1) := by decide +kernel
theorem dX5_year_33 : decode cX5_year 33 = .ok (.iload_n 1, 1) := by decide +kernel
theorem dX5_year_34 : decode cX5_year 34 = .ok (.invokevirtual 163, 3) := by decide +kernel
theorem dX5_year_37 : decode cX5_year 37 = .ok (.astore_n 2, 1) := by decide +kernel
theorem dX5_year_38 : decode cX5_year 38 = .ok (.aload_n 2, 1) := by decide +kernel
theorem dX5_year_39 : decode cX5_year 39 = .ok (.ifnull 46, 3) := by decide +kernel
theorem dX5_year_42 : decode cX5_year 42 = .ok (.aload_n 0, 1) := by decide +kernel
theorem dX5_year_43 : decode cX5_year 43 = .ok (.getfield 26, 3) := by decide +kernel
theorem dX5_year_46 : decode cX5_year 46 = .ok (.iload_n 1, 1) := by decide +kernel
theorem dX5_year_47 : decode cX5_year 47 = .ok (.invokevirtual 144, 3) := by decide +kernel
theorem dX5_year_50 : decode cX5_year 50 = .ok (.istore_n 3, 1) := by decide +kernel
theorem dX5_year_51 : decode cX5_year 51 = .ok (.aload_n 2, 1) := by decide +kernel
theorem dX5_year_52 : decode cX5_year 52 = .ok (.iload_n 3, 1) := by decide +kernel
theorem dX5_year_53 : decode cX5_year 53 = .ok (.ifCond .eq 7, 3) := by decide +kernel
theorem dX5_year_56 : decode cX5_year 56 = .ok (.iconst 1, 1) := by decide +kernel
theorem dX5_year_57 : decode cX5_year 57 = .ok (.goto 4, 3) := by decide +kernel
theorem dX5_year_60 : decode cX5_year 60 = .ok (.iconst 0, 1) := by decide +kernel
theorem dX5_year_61 : decode cX5_year 61 = .ok (.invokevirtual 174, 3) := by decide +kernel
theorem dX5_year_64 : decode cX5_year 64 = .ok (.aload_n 2, 1) := by decide +kernel
theorem dX5_year_65 : decode cX5_year 65 = .ok (.aload_n 0, 1) := by decide +kernel
theorem dX5_year_66 : decode cX5_year 66 = .ok (.iload_n 3, 1) := by decide +kernel
theorem dX5_year_67 : decode cX5_year 67 = .ok (.invokevirtual 147, 3) := by decide +kernel
theorem dX5_year_70 : decode cX5_year 70 = .ok (.aload_n 0, 1) := by decide +kernel
theorem dX5_year_71 : decode cX5_year 71 = .ok (.getfield 26, 3) := by decide +kernel
theorem dX5_year_74 : decode cX5_year 74 = .ok (.iload_n 1, 1) := by decide +kernel
theorem dX5_year_75 : decode cX5_year 75 = .ok (.invokevirtual 178, 3) := by decide +kernel
theorem dX5_year_78 : decode cX5_year 78 = .ok (.aload_n 0, 1) := by decide +kernel
theorem dX5_year_79 : decode cX5_year 79 = .ok (.getfield 19, 3) := by decide +kernel
theorem dX5_year_82 : decode cX5_year 82 = .ok (.invokevirtual 181, 3) := by decide +kernel
theorem dX5_year_85 : decode cX5_year 85 = .ok (.iinc 1 1, 3) := by decide +kernel
theorem dX5_year_88 : decode cX5_year 88 = .ok (.goto (-64), 3) := by decide +kernel
theorem dX5_year_91 : decode cX5_year 91 = .ok (.aload_n 0, 1) := by decide +kernel
theorem dX5_year_92 : decode cX5_year 92 = .ok (.getfield 26, 3) := by decide +kernel
theorem dX5_year_95 : decode cX5_year 95 = .ok (.invokevirtual 185, 3) := by decide +kernel
theorem dX5_year_98 : decode cX5_year 98 = .ok (.aload_n 0, 1) := by decide +kernel
theorem dX5_year_99 : decode cX5_year 99 = .ok (.dup, 1) := by decide +kernel
theorem dX5_year_100 : decode cX5_year 100 = .ok (.getfield 54, 3) := by decide +kernel
theorem dX5_year_103 : decode cX5_year 103 = .ok (.iconst 1, 1) := by decide +kernel
theorem dX5_year_104 : decode cX5_year 104 = .ok (.iadd, 1) := by decide +kernel
theorem dX5_year_105 : decode cX5_year 105 = .ok (.putfield 54, 3) := by decide +kernel
theorem dX5_year_108 : decode cX5_year 108 = .ok (.aload_n 0, 1) := by decide +kernel
theorem dX5_year_109 : decode cX5_year 109 = .ok (.getfield 54, 3) := by decide +kernel
theorem dX5_year_112 : decode cX5_year 112 = .ok (.ireturn, 1) := by decide +kernel
set_option maxRecDepth 20000 in
theorem ggX5_sealed_X5_isBelow : GoodIn wsX5_sealed wsX5_isBelow := goodIn_r _ [8] (by decide +kernel) (by decide +kernel)
set_option maxRecDepth 20000 in
theorem gX5_sealed_X5_isBelow : GoodIn wsX5_sealed (va_wsS RX5 82 yX5_isBelow wsX5_isBelow) := goodIn_app (goodIn_of _ (by decide +kernel)) ggX5_sealed_X5_isBelow
set_option maxRecDepth 20000 in
theorem ggX5_sealed_X5_farmAt : GoodIn wsX5_sealed wsX5_farmAt := goodIn_r _ [12, 13, 14, 15, 16, 7, 17, 1, 5, 6, 8, 27, 28, 29, 30, 31, 32, 33, 34, 35] (by decide +kernel) (by decide +kernel)
set_option maxRecDepth 20000 in
theorem gX5_sealed_X5_farmAt : GoodIn wsX5_sealed (wsV RX5 163 RX5 yX5_farmAt wsX5_farmAt) := goodIn_app (goodIn_of _ (by decide +kernel)) ggX5_sealed_X5_farmAt
set_option maxRecDepth 20000 in
theorem ggX5_sealed_X5_oneIf : GoodIn wsX5_sealed wsX5_oneIf := goodIn_r _ [20] (by decide +kernel) (by decide +kernel)
set_option maxRecDepth 20000 in
theorem gX5_sealed_X5_oneIf : GoodIn wsX5_sealed (va_wsS RX5 156 yX5_oneIf wsX5_oneIf) := goodIn_app (goodIn_of _ (by decide +kernel)) ggX5_sealed_X5_oneIf
set_option maxRecDepth 20000 in
theorem ggX5_sealed_X2_number : GoodIn wsX5_sealed wsX2_number := goodIn_r _ [25, 26, 6, 7, 8, 44, 45, 46] (by decide +kernel) (by decide +kernel)
set_option maxRecDepth 20000 in
theorem gX5_sealed_X2_number : GoodIn wsX5_sealed (wsV RX5 98 RX2 yX2_number wsX2_number) := goodIn_app (goodIn_of _ (by decide +kernel)) ggX5_sealed_X2_number
theorem dX5_sealed_0 : decode cX5_sealed 0 = .ok (.iload_n 1, 1) := by decide +kernel
theorem dX5_sealed_1 : decode cX5_sealed 1 = .ok (.iconst 4, 1) := by decide +kernel
theorem dX5_sealed_2 : decode cX5_sealed 2 = .ok (.invokestatic 82, 3) := by decide +kernel
theorem dX5_sealed_5 : decode cX5_sealed 5 = .ok (.ifCond .ne 5, 3) := by decide +kernel
theorem dX5_sealed_8 : decode cX5_sealed 8 = .ok (.iconst (-1), 1) := by decide +kernel
theorem dX5_sealed_9 : decode cX5_sealed 9 = .ok (.ireturn, 1) := by decide +kernel
theorem dX5_sealed_10 : decode cX5_sealed 10 = .ok (.iconst 0, 1) := by decide +kernel
theorem dX5_sealed_11 : decode cX5_sealed 11 = .ok (.istore_n 2, 1) := by decide +kernel
theorem dX5_sealed_12 : decode cX5_sealed 12 = .ok (.iconst 0, 1) := by decide +kernel
theorem dX5_sealed_13 : decode cX5_sealed 13 = .ok (.istore_n 3, 1) := by decide +kernel
theorem dX5_sealed_14 : decode cX5_sealed 14 = .ok (.iconst 0, 1) := by decide +kernel
theorem dX5_sealed_15 : decode cX5_sealed 15 = .ok (.istore 4, 2) := by decide +kernel
theorem dX5_sealed_17 : decode cX5_sealed 17 = .ok (.iload 4, 2) := by decide +kernel
theorem dX5_sealed_19 : decode cX5_sealed 19 = .ok (.aload_n 0, 1) := by decide +kernel
theorem dX5_sealed_20 : decode cX5_sealed 20 = .ok (.getfield 50, 3) := by decide +kernel
theorem dX5_sealed_23 : decode cX5_sealed 23 = .ok (.if_icmp .ge 45, 3) := by decide +kernel
theorem dX5_sealed_26 : decode cX5_sealed 26 = .ok (.aload_n 0, 1) := by decide +kernel
theorem dX5_sealed_27 : decode cX5_sealed 27 = .ok (.iload 4, 2) := by decide +kernel
theorem dX5_sealed_29 : decode cX5_sealed 29 = .ok (.invokevirtual 163, 3) := by decide +kernel
theorem dX5_sealed_32 : decode cX5_sealed 32 = .ok (.astore 5, 2) := by decide +kernel
theorem dX5_sealed_34 : decode cX5_sealed 34 = .ok (.aload 5, 2) := by decide +kernel
theorem dX5_sealed_36 : decode cX5_sealed 36 = .ok (.ifnull 26, 3) := by decide +kernel
theorem dX5_sealed_39 : decode cX5_sealed 39 = .ok (.aload 5, 2) := by decide +kernel
theorem dX5_sealed_41 : decode cX5_sealed 41 = .ok (.getfield 188, 3) := by decide +kernel
theorem dX5_sealed_44 : decode cX5_sealed 44 = .ok (.iload_n 1, 1) := by decide +kernel
theorem dX5_sealed_45 : decode cX5_sealed 45 = .ok (.if_icmp .ne 17, 3) := by decide +kernel
theorem dX5_sealed_48 : decode cX5_sealed 48 = .ok (.iinc 2 1, 3) := by decide +kernel
theorem dX5_sealed_51 : decode cX5_sealed 51 = .ok (.iload_n 3, 1) := by decide +kernel
theorem dX5_sealed_52 : decode cX5_sealed 52 = .ok (.aload 5, 2) := by decide +kernel
theorem dX5_sealed_54 : decode cX5_sealed 54 = .ok (.getfield 167, 3) := by decide +kernel
theorem dX5_sealed_57 : decode cX5_sealed 57 = .ok (.invokestatic 156, 3) := by decide +kernel
theorem dX5_sealed_60 : decode cX5_sealed 60 = .ok (.iadd, 1) := by decide +kernel
theorem dX5_sealed_61 : decode cX5_sealed 61 = .ok (.istore_n 3, 1) := by decide +kernel
theorem dX5_sealed_62 : decode cX5_sealed 62 = .ok (.iinc 4 1, 3) := by decide +kernel
theorem dX5_sealed_65 : decode cX5_sealed 65 = .ok (.goto (-48), 3) := by decide +kernel
theorem dX5_sealed_68 : decode cX5_sealed 68 = .ok (.iload_n 2, 1) := by decide +kernel
theorem dX5_sealed_69 : decode cX5_sealed 69 = .ok (.ifCond .le 24, 3) := by decide +kernel
theorem dX5_sealed_72 : decode cX5_sealed 72 = .ok (.iload_n 3, 1) := by decide +kernel
theorem dX5_sealed_73 : decode cX5_sealed 73 = .ok (.bipush 100, 2) := by decide +kernel
theorem dX5_sealed_75 : decode cX5_sealed 75 = .ok (.imul, 1) := by decide +kernel
theorem dX5_sealed_76 : decode cX5_sealed 76 = .ok (.aload_n 0, 1) := by decide +kernel
theorem dX5_sealed_77 : decode cX5_sealed 77 = .ok (.getfield 19, 3) := by decide +kernel
theorem dX5_sealed_80 : decode cX5_sealed 80 = .ok (.iconst 5, 1) := by decide +kernel
theorem dX5_sealed_81 : decode cX5_sealed 81 = .ok (.invokevirtual 98, 3) := by decide +kernel
theorem dX5_sealed_84 : decode cX5_sealed 84 = .ok (.iload_n 2, 1) := by decide +kernel
theorem dX5_sealed_85 : decode cX5_sealed 85 = .ok (.imul, 1) := by decide +kernel
theorem dX5_sealed_86 : decode cX5_sealed 86 = .ok (.if_icmp .lt 7, 3) := by decide +kernel
theorem dX5_sealed_89 : decode cX5_sealed 89 = .ok (.iconst 1, 1) := by decide +kernel
theorem dX5_sealed_90 : decode cX5_sealed 90 = .ok (.goto 4, 3) := by decide +kernel
theorem dX5_sealed_93 : decode cX5_sealed 93 = .ok (.iconst 0, 1) := by decide +kernel
theorem dX5_sealed_94 : decode cX5_sealed 94 = .ok (.invokestatic 156, 3) := by decide +kernel
theorem dX5_sealed_97 : decode cX5_sealed 97 = .ok (.ireturn, 1) := by decide +kernel
set_option maxRecDepth 20000 in
theorem ggX5_barred_X5_areFarms : GoodIn wsX5_barred wsX5_areFarms := goodIn_r _ [5, 6, 7, 8, 4, 9, 10, 11, 12, 13, 46, 47, 48, 49, 50, 51, 52, 53, 54] (by decide +kernel) (by decide +kernel)
set_option maxRecDepth 20000 in
theorem gX5_barred_X5_areFarms : GoodIn wsX5_barred (wsV RX5 89 RX5 yX5_areFarms wsX5_areFarms) := goodIn_app (goodIn_of _ (by decide +kernel)) ggX5_barred_X5_areFarms
set_option maxRecDepth 20000 in
theorem ggX5_barred_X5_isBarred : GoodIn wsX5_barred wsX5_isBarred := goodIn_r _ [17, 18, 19, 20, 21, 4, 22, 23, 24, 25, 26, 27, 28, 6, 7, 8, 9, 10, 11, 12, 13, 29, 30, 31, 32, 33, 34, 35, 36, 37, 38, 39, 40, 41, 42, 46, 47, 48, 49, 50, 51, 52, 53, 54, 55, 56, 57, 58, 59, 60, 61, 62, 63, 64, 65, 66] (by decide +kernel) (by decide +kernel)
set_option maxRecDepth 20000 in
theorem gX5_barred_X5_isBarred : GoodIn wsX5_barred (wsV RX5 105 RX5 yX5_isBarred wsX5_isBarred) := goodIn_app (goodIn_of _ (by decide +kernel)) ggX5_barred_X5_isBarred
set_option maxRecDepth 20000 in
theorem ggX5_barred_X5_oneIf : GoodIn wsX5_barred wsX5_oneIf := goodIn_r _ [45] (by decide +kernel) (by decide +kernel)
set_option maxRecDepth 20000 in
theorem gX5_barred_X5_oneIf : GoodIn wsX5_barred (va_wsS RX5 156 yX5_oneIf wsX5_oneIf) := goodIn_app (goodIn_of _ (by decide +kernel)) ggX5_barred_X5_oneIf
theorem dX5_barred_0 : decode cX5_barred 0 = .ok (.aload_n 0, 1) := by decide +kernel
theorem dX5_barred_1 : decode cX5_barred 1 = .ok (.iload_n 1, 1) := by decide +kernel
theorem dX5_barred_2 : decode cX5_barred 2 = .ok (.iload_n 2, 1) := by decide +kernel
theorem dX5_barred_3 : decode cX5_barred 3 = .ok (.invokevirtual 89, 3) := by decide +kernel
theorem dX5_barred_6 : decode cX5_barred 6 = .ok (.ifCond .ne 5, 3) := by decide +kernel
theorem dX5_barred_9 : decode cX5_barred 9 = .ok (.iconst (-1), 1) := by decide +kernel
theorem dX5_barred_10 : decode cX5_barred 10 = .ok (.ireturn, 1) := by decide +kernel
theorem dX5_barred_11 : decode cX5_barred 11 = .ok (.aload_n 0, 1) := by decide +kernel
end
section
theorem dX5_barred_12 : decode cX5_barred 12 = .ok (.iload_n 1, 1) := by decide +kernel
theorem dX5_barred_13 : decode cX5_barred 13 = .ok (.iload_n 2, 1) := by decide +kernel
theorem dX5_barred_14 : decode cX5_barred 14 = .ok (.invokevirtual 105, 3) := by decide +kernel
theorem dX5_barred_17 : decode cX5_barred 17 = .ok (.invokestatic 156, 3) := by decide +kernel
theorem dX5_barred_20 : decode cX5_barred 20 = .ok (.ireturn, 1) := by decide +kernel
set_option maxRecDepth 20000 in
theorem ggX5_look_X5_farmAt : GoodIn wsX5_look wsX5_farmAt := goodIn_r _ [14, 15, 16, 17, 18, 13, 19, 20, 21, 22, 23, 58, 59, 60, 61, 62, 63, 64, 65, 66] (by decide +kernel) (by decide +kernel)
set_option maxRecDepth 20000 in
theorem gX5_look_X5_farmAt : GoodIn wsX5_look (wsV RX5 163 RX5 yX5_farmAt wsX5_farmAt) := goodIn_app (goodIn_of _ (by decide +kernel)) ggX5_look_X5_farmAt
set_option maxRecDepth 20000 in
theorem ggX5_look_X5_oneIf : GoodIn wsX5_look wsX5_oneIf := goodIn_r _ [26] (by decide +kernel) (by decide +kernel)
set_option maxRecDepth 20000 in
theorem gX5_look_X5_oneIf : GoodIn wsX5_look (va_wsS RX5 156 yX5_oneIf wsX5_oneIf) := goodIn_app (goodIn_of _ (by decide +kernel)) ggX5_look_X5_oneIf
set_option maxRecDepth 20000 in
theorem ggX5_look_X4_visitorCount : GoodIn wsX5_look wsX4_visitorCount := goodIn_r _ [31, 32, 33, 34, 35, 36, 37, 38, 39, 67, 68, 69, 70] (by decide +kernel) (by decide +kernel)
set_option maxRecDepth 20000 in
theorem gX5_look_X4_visitorCount : GoodIn wsX5_look (wsV RX5 178 RX4 yX4_visitorCount wsX4_visitorCount) := goodIn_app (goodIn_of _ (by decide +kernel)) ggX5_look_X4_visitorCount
set_option maxRecDepth 20000 in
theorem ggX5_look_X4_visitsBy : GoodIn wsX5_look wsX4_visitsBy := goodIn_r _ [43, 44, 45, 46, 30, 47, 32, 48, 13, 49, 25, 26, 67, 68, 69, 70] (by decide +kernel) (by decide +kernel)
set_option maxRecDepth 20000 in
theorem gX5_look_X4_visitsBy : GoodIn wsX5_look (wsV RX5 209 RX4 yX4_visitsBy wsX4_visitsBy) := goodIn_app (goodIn_of _ (by decide +kernel)) ggX5_look_X4_visitsBy
theorem dX5_look_0 : decode cX5_look 0 = .ok (.aload_n 0, 1) := by decide +kernel
theorem dX5_look_1 : decode cX5_look 1 = .ok (.iload_n 1, 1) := by decide +kernel
theorem dX5_look_2 : decode cX5_look 2 = .ok (.invokevirtual 163, 3) := by decide +kernel
theorem dX5_look_5 : decode cX5_look 5 = .ok (.astore_n 3, 1) := by decide +kernel
theorem dX5_look_6 : decode cX5_look 6 = .ok (.aload_n 3, 1) := by decide +kernel
theorem dX5_look_7 : decode cX5_look 7 = .ok (.ifnonnull 5, 3) := by decide +kernel
theorem dX5_look_10 : decode cX5_look 10 = .ok (.iconst (-1), 1) := by decide +kernel
theorem dX5_look_11 : decode cX5_look 11 = .ok (.ireturn, 1) := by decide +kernel
theorem dX5_look_12 : decode cX5_look 12 = .ok (.iload_n 2, 1) := by decide +kernel
theorem dX5_look_13 : decode cX5_look 13 = .ok (.tableswitch 116 0 9 #[55, 60, 65, 73, 78, 83, 88, 93, 98, 107], 55) := by decide +kernel
theorem dX5_look_68 : decode cX5_look 68 = .ok (.aload_n 3, 1) := by decide +kernel
theorem dX5_look_69 : decode cX5_look 69 = .ok (.getfield 191, 3) := by decide +kernel
theorem dX5_look_72 : decode cX5_look 72 = .ok (.ireturn, 1) := by decide +kernel
theorem dX5_look_73 : decode cX5_look 73 = .ok (.aload_n 3, 1) := by decide +kernel
theorem dX5_look_74 : decode cX5_look 74 = .ok (.getfield 188, 3) := by decide +kernel
theorem dX5_look_77 : decode cX5_look 77 = .ok (.ireturn, 1) := by decide +kernel
theorem dX5_look_78 : decode cX5_look 78 = .ok (.aload_n 3, 1) := by decide +kernel
theorem dX5_look_79 : decode cX5_look 79 = .ok (.getfield 167, 3) := by decide +kernel
theorem dX5_look_82 : decode cX5_look 82 = .ok (.invokestatic 156, 3) := by decide +kernel
theorem dX5_look_85 : decode cX5_look 85 = .ok (.ireturn, 1) := by decide +kernel
theorem dX5_look_86 : decode cX5_look 86 = .ok (.aload_n 3, 1) := by decide +kernel
theorem dX5_look_87 : decode cX5_look 87 = .ok (.getfield 194, 3) := by decide +kernel
theorem dX5_look_90 : decode cX5_look 90 = .ok (.ireturn, 1) := by decide +kernel
theorem dX5_look_91 : decode cX5_look 91 = .ok (.aload_n 3, 1) := by decide +kernel
theorem dX5_look_92 : decode cX5_look 92 = .ok (.getfield 197, 3) := by decide +kernel
theorem dX5_look_95 : decode cX5_look 95 = .ok (.ireturn, 1) := by decide +kernel
theorem dX5_look_96 : decode cX5_look 96 = .ok (.aload_n 3, 1) := by decide +kernel
theorem dX5_look_97 : decode cX5_look 97 = .ok (.getfield 200, 3) := by decide +kernel
theorem dX5_look_100 : decode cX5_look 100 = .ok (.ireturn, 1) := by decide +kernel
theorem dX5_look_101 : decode cX5_look 101 = .ok (.aload_n 3, 1) := by decide +kernel
theorem dX5_look_102 : decode cX5_look 102 = .ok (.getfield 203, 3) := by decide +kernel
theorem dX5_look_105 : decode cX5_look 105 = .ok (.ireturn, 1) := by decide +kernel
theorem dX5_look_106 : decode cX5_look 106 = .ok (.aload_n 3, 1) := by decide +kernel
theorem dX5_look_107 : decode cX5_look 107 = .ok (.getfield 206, 3) := by decide +kernel
theorem dX5_look_110 : decode cX5_look 110 = .ok (.ireturn, 1) := by decide +kernel
theorem dX5_look_111 : decode cX5_look 111 = .ok (.aload_n 0, 1) := by decide +kernel
theorem dX5_look_112 : decode cX5_look 112 = .ok (.getfield 26, 3) := by decide +kernel
theorem dX5_look_115 : decode cX5_look 115 = .ok (.iload_n 1, 1) := by decide +kernel
theorem dX5_look_116 : decode cX5_look 116 = .ok (.invokevirtual 178, 3) := by decide +kernel
theorem dX5_look_119 : decode cX5_look 119 = .ok (.ireturn, 1) := by decide +kernel
theorem dX5_look_120 : decode cX5_look 120 = .ok (.aload_n 0, 1) := by decide +kernel
theorem dX5_look_121 : decode cX5_look 121 = .ok (.getfield 26, 3) := by decide +kernel
theorem dX5_look_124 : decode cX5_look 124 = .ok (.iload_n 1, 1) := by decide +kernel
theorem dX5_look_125 : decode cX5_look 125 = .ok (.invokevirtual 209, 3) := by decide +kernel
theorem dX5_look_128 : decode cX5_look 128 = .ok (.ireturn, 1) := by decide +kernel
theorem dX5_look_129 : decode cX5_look 129 = .ok (.iconst (-1), 1) := by decide +kernel
theorem dX5_look_130 : decode cX5_look 130 = .ok (.ireturn, 1) := by decide +kernel
set_option maxRecDepth 20000 in
theorem ggX5_count_X5_isBelow : GoodIn wsX5_count wsX5_isBelow := goodIn_r _ [10] (by decide +kernel) (by decide +kernel)
set_option maxRecDepth 20000 in
theorem gX5_count_X5_isBelow : GoodIn wsX5_count (va_wsS RX5 82 yX5_isBelow wsX5_isBelow) := goodIn_app (goodIn_of _ (by decide +kernel)) ggX5_count_X5_isBelow
set_option maxRecDepth 20000 in
theorem ggX5_count_X2_number : GoodIn wsX5_count wsX2_number := goodIn_r _ [15, 16, 8, 9, 10, 81, 82, 83] (by decide +kernel) (by decide +kernel)
set_option maxRecDepth 20000 in
theorem gX5_count_X2_number : GoodIn wsX5_count (wsV RX5 98 RX2 yX2_number wsX2_number) := goodIn_app (goodIn_of _ (by decide +kernel)) ggX5_count_X2_number
set_option maxRecDepth 20000 in
theorem ggX5_count_X4_areLaid : GoodIn wsX5_count wsX4_areLaid := goodIn_r _ [21, 22, 84, 85, 86, 87] (by decide +kernel) (by decide +kernel)
set_option maxRecDepth 20000 in
theorem gX5_count_X4_areLaid : GoodIn wsX5_count (wsV RX5 95 RX4 yX4_areLaid wsX4_areLaid) := goodIn_app (goodIn_of _ (by decide +kernel)) ggX5_count_X4_areLaid
set_option maxRecDepth 20000 in
theorem ggX5_count_X5_oneIf : GoodIn wsX5_count wsX5_oneIf := goodIn_r _ [25] (by decide +kernel) (by decide +kernel)
set_option maxRecDepth 20000 in
theorem gX5_count_X5_oneIf : GoodIn wsX5_count (va_wsS RX5 156 yX5_oneIf wsX5_oneIf) := goodIn_app (goodIn_of _ (by decide +kernel)) ggX5_count_X5_oneIf
set_option maxRecDepth 20000 in
theorem ggX5_count_X4_total : GoodIn wsX5_count wsX4_total := goodIn_r _ [29, 30, 31, 32, 20, 33, 34, 35, 36, 37, 38, 39, 40, 41, 84, 85, 86, 87] (by decide +kernel) (by decide +kernel)
set_option maxRecDepth 20000 in
theorem gX5_count_X4_total : GoodIn wsX5_count (wsV RX5 126 RX4 yX4_total wsX4_total) := goodIn_app (goodIn_of _ (by decide +kernel)) ggX5_count_X4_total
set_option maxRecDepth 20000 in
theorem ggX5_count_X5_countSeals : GoodIn wsX5_count wsX5_countSeals := goodIn_r _ [45, 3, 46, 47, 48, 49, 9, 50, 51, 52, 53, 54, 55, 7, 8, 10, 72, 73, 74, 75, 76, 77, 78, 79, 80, 88, 89, 90, 91, 92, 93, 94, 95] (by decide +kernel) (by decide +kernel)
set_option maxRecDepth 20000 in
theorem gX5_count_X5_countSeals : GoodIn wsX5_count (wsV RX5 212 RX5 yX5_countSeals wsX5_countSeals) := goodIn_app (goodIn_of _ (by decide +kernel)) ggX5_count_X5_countSeals
set_option maxRecDepth 20000 in
theorem ggX5_count_X5_countOut : GoodIn wsX5_count wsX5_countOut := goodIn_r _ [59, 3, 47, 48, 49, 9, 50, 51, 52, 53, 54, 55, 7, 8, 10, 60, 61, 62, 63, 64, 65, 72, 73, 74, 75, 76, 77, 78, 79, 80, 88, 89, 90, 91, 92, 93, 94, 95] (by decide +kernel) (by decide +kernel)
set_option maxRecDepth 20000 in
theorem gX5_count_X5_countOut : GoodIn wsX5_count (wsV RX5 215 RX5 yX5_countOut wsX5_countOut) := goodIn_app (goodIn_of _ (by decide +kernel)) ggX5_count_X5_countOut
set_option maxRecDepth 20000 in
theorem ggX5_count_X3_size : GoodIn wsX5_count wsX3_size := goodIn_r _ [70, 71, 96, 97] (by decide +kernel) (by decide +kernel)
set_option maxRecDepth 20000 in
theorem gX5_count_X3_size : GoodIn wsX5_count (wsV RX5 71 RX3 yX3_size wsX3_size) := goodIn_app (goodIn_of _ (by decide +kernel)) ggX5_count_X3_size
theorem dX5_count_0 : decode cX5_count 0 = .ok (.iload_n 1, 1) := by decide +kernel
theorem dX5_count_1 : decode cX5_count 1 = .ok (.bipush 10, 2) := by decide +kernel
theorem dX5_count_3 : decode cX5_count 3 = .ok (.isub, 1) := by decide +kernel
theorem dX5_count_4 : decode cX5_count 4 = .ok (.bipush 6, 2) := by decide +kernel
theorem dX5_count_6 : decode cX5_count 6 = .ok (.invokestatic 82, 3) := by decide +kernel
theorem dX5_count_9 : decode cX5_count 9 = .ok (.ifCond .eq 15, 3) := by decide +kernel
theorem dX5_count_12 : decode cX5_count 12 = .ok (.aload_n 0, 1) := by decide +kernel
theorem dX5_count_13 : decode cX5_count 13 = .ok (.getfield 19, 3) := by decide +kernel
theorem dX5_count_16 : decode cX5_count 16 = .ok (.iload_n 1, 1) := by decide +kernel
theorem dX5_count_17 : decode cX5_count 17 = .ok (.bipush 10, 2) := by decide +kernel
theorem dX5_count_19 : decode cX5_count 19 = .ok (.isub, 1) := by decide +kernel
theorem dX5_count_20 : decode cX5_count 20 = .ok (.invokevirtual 98, 3) := by decide +kernel
theorem dX5_count_23 : decode cX5_count 23 = .ok (.ireturn, 1) := by decide +kernel
theorem dX5_count_24 : decode cX5_count 24 = .ok (.iload_n 1, 1) := by decide +kernel
theorem dX5_count_25 : decode cX5_count 25 = .ok (.bipush 20, 2) := by decide +kernel
theorem dX5_count_27 : decode cX5_count 27 = .ok (.isub, 1) := by decide +kernel
theorem dX5_count_28 : decode cX5_count 28 = .ok (.bipush 8, 2) := by decide +kernel
theorem dX5_count_30 : decode cX5_count 30 = .ok (.invokestatic 82, 3) := by decide +kernel
theorem dX5_count_33 : decode cX5_count 33 = .ok (.ifCond .eq 13, 3) := by decide +kernel
theorem dX5_count_36 : decode cX5_count 36 = .ok (.aload_n 0, 1) := by decide +kernel
theorem dX5_count_37 : decode cX5_count 37 = .ok (.getfield 47, 3) := by decide +kernel
theorem dX5_count_40 : decode cX5_count 40 = .ok (.iload_n 1, 1) := by decide +kernel
theorem dX5_count_41 : decode cX5_count 41 = .ok (.bipush 20, 2) := by decide +kernel
theorem dX5_count_43 : decode cX5_count 43 = .ok (.isub, 1) := by decide +kernel
theorem dX5_count_44 : decode cX5_count 44 = .ok (.iaload, 1) := by decide +kernel
theorem dX5_count_45 : decode cX5_count 45 = .ok (.ireturn, 1) := by decide +kernel
theorem dX5_count_46 : decode cX5_count 46 = .ok (.iload_n 1, 1) := by decide +kernel
theorem dX5_count_47 : decode cX5_count 47 = .ok (.tableswitch 88 0 6 #[41, 46, 51, 62, 70, 75, 80], 41) := by decide +kernel
theorem dX5_count_88 : decode cX5_count 88 = .ok (.aload_n 0, 1) := by decide +kernel
theorem dX5_count_89 : decode cX5_count 89 = .ok (.getfield 50, 3) := by decide +kernel
theorem dX5_count_92 : decode cX5_count 92 = .ok (.ireturn, 1) := by decide +kernel
theorem dX5_count_93 : decode cX5_count 93 = .ok (.aload_n 0, 1) := by decide +kernel
theorem dX5_count_94 : decode cX5_count 94 = .ok (.getfield 54, 3) := by decide +kernel
theorem dX5_count_97 : decode cX5_count 97 = .ok (.ireturn, 1) := by decide +kernel
theorem dX5_count_98 : decode cX5_count 98 = .ok (.aload_n 0, 1) := by decide +kernel
theorem dX5_count_99 : decode cX5_count 99 = .ok (.getfield 26, 3) := by decide +kernel
theorem dX5_count_102 : decode cX5_count 102 = .ok (.invokevirtual 95, 3) := by decide +kernel
theorem dX5_count_105 : decode cX5_count 105 = .ok (.invokestatic 156, 3) := by decide +kernel
theorem dX5_count_108 : decode cX5_count 108 = .ok (.ireturn, 1) := by decide +kernel
theorem dX5_count_109 : decode cX5_count 109 = .ok (.aload_n 0, 1) := by decide +kernel
theorem dX5_count_110 : decode cX5_count 110 = .ok (.getfield 26, 3) := by decide +kernel
theorem dX5_count_113 : decode cX5_count 113 = .ok (.invokevirtual 126, 3) := by decide +kernel
theorem dX5_count_116 : decode cX5_count 116 = .ok (.ireturn, 1) := by decide +kernel
theorem dX5_count_117 : decode cX5_count 117 = .ok (.aload_n 0, 1) := by decide +kernel
theorem dX5_count_118 : decode cX5_count 118 = .ok (.invokevirtual 212, 3) := by decide +kernel
theorem dX5_count_121 : decode cX5_count 121 = .ok (.ireturn, 1) := by decide +kernel
theorem dX5_count_122 : decode cX5_count 122 = .ok (.aload_n 0, 1) := by decide +kernel
theorem dX5_count_123 : decode cX5_count 123 = .ok (.invokevirtual 215, 3) := by decide +kernel
theorem dX5_count_126 : decode cX5_count 126 = .ok (.ireturn, 1) := by decide +kernel
theorem dX5_count_127 : decode cX5_count 127 = .ok (.aload_n 0, 1) := by decide +kernel
theorem dX5_count_128 : decode cX5_count 128 = .ok (.getfield 10, 3) := by decide +kernel
theorem dX5_count_131 : decode cX5_count 131 = .ok (.invokevirtual 71, 3) := by decide +kernel
theorem dX5_count_134 : decode cX5_count 134 = .ok (.ireturn, 1) := by decide +kernel
theorem dX5_count_135 : decode cX5_count 135 = .ok (.iconst (-1), 1) := by decide +kernel
theorem dX5_count_136 : decode cX5_count 136 = .ok (.ireturn, 1) := by decide +kernel
theorem dX5_isBelow_0 : decode cX5_isBelow 0 = .ok (.iload_n 0, 1) := by decide +kernel
theorem dX5_isBelow_1 : decode cX5_isBelow 1 = .ok (.ifCond .lt 12, 3) := by decide +kernel
theorem dX5_isBelow_4 : decode cX5_isBelow 4 = .ok (.iload_n 0, 1) := by decide +kernel
theorem dX5_isBelow_5 : decode cX5_isBelow 5 = .ok (.iload_n 1, 1) := by decide +kernel
theorem dX5_isBelow_6 : decode cX5_isBelow 6 = .ok (.if_icmp .ge 7, 3) := by decide +kernel
theorem dX5_isBelow_9 : decode cX5_isBelow 9 = .ok (.iconst 1, 1) := by decide +kernel
theorem dX5_isBelow_10 : decode cX5_isBelow 10 = .ok (.goto 4, 3) := by decide +kernel
theorem dX5_isBelow_13 : decode cX5_isBelow 13 = .ok (.iconst 0, 1) := by decide +kernel
theorem dX5_isBelow_14 : decode cX5_isBelow 14 = .ok (.ireturn, 1) := by decide +kernel
theorem dX5_hasBit_0 : decode cX5_hasBit 0 = .ok (.iload_n 0, 1) := by decide +kernel
theorem dX5_hasBit_1 : decode cX5_hasBit 1 = .ok (.iload_n 1, 1) := by decide +kernel
theorem dX5_hasBit_2 : decode cX5_hasBit 2 = .ok (.ishr, 1) := by decide +kernel
theorem dX5_hasBit_3 : decode cX5_hasBit 3 = .ok (.iconst 1, 1) := by decide +kernel
theorem dX5_hasBit_4 : decode cX5_hasBit 4 = .ok (.iand, 1) := by decide +kernel
theorem dX5_hasBit_5 : decode cX5_hasBit 5 = .ok (.ifCond .eq 7, 3) := by decide +kernel
theorem dX5_hasBit_8 : decode cX5_hasBit 8 = .ok (.iconst 1, 1) := by decide +kernel
theorem dX5_hasBit_9 : decode cX5_hasBit 9 = .ok (.goto 4, 3) := by decide +kernel
theorem dX5_hasBit_12 : decode cX5_hasBit 12 = .ok (.iconst 0, 1) := by decide +kernel
theorem dX5_hasBit_13 : decode cX5_hasBit 13 = .ok (.ireturn, 1) := by decide +kernel
theorem dX5_oneIf_0 : decode cX5_oneIf 0 = .ok (.iload_n 0, 1) := by decide +kernel
theorem dX5_oneIf_1 : decode cX5_oneIf 1 = .ok (.ifCond .eq 7, 3) := by decide +kernel
theorem dX5_oneIf_4 : decode cX5_oneIf 4 = .ok (.iconst 1, 1) := by decide +kernel
theorem dX5_oneIf_5 : decode cX5_oneIf 5 = .ok (.goto 4, 3) := by decide +kernel
theorem dX5_oneIf_8 : decode cX5_oneIf 8 = .ok (.iconst 0, 1) := by decide +kernel
theorem dX5_oneIf_9 : decode cX5_oneIf 9 = .ok (.ireturn, 1) := by decide +kernel
set_option maxRecDepth 20000 in
theorem ggX5_isFarm_X5_isBelow : GoodIn wsX5_isFarm wsX5_isBelow := goodIn_r _ [5] (by decide +kernel) (by decide +kernel)
set_option maxRecDepth 20000 in
theorem gX5_isFarm_X5_isBelow : GoodIn wsX5_isFarm (va_wsS RX5 82 yX5_isBelow wsX5_isBelow) := goodIn_app (goodIn_of _ (by decide +kernel)) ggX5_isFarm_X5_isBelow
theorem dX5_isFarm_0 : decode cX5_isFarm 0 = .ok (.iload_n 1, 1) := by decide +kernel
theorem dX5_isFarm_1 : decode cX5_isFarm 1 = .ok (.aload_n 0, 1) := by decide +kernel
theorem dX5_isFarm_2 : decode cX5_isFarm 2 = .ok (.getfield 50, 3) := by decide +kernel
theorem dX5_isFarm_5 : decode cX5_isFarm 5 = .ok (.invokestatic 82, 3) := by decide +kernel
theorem dX5_isFarm_8 : decode cX5_isFarm 8 = .ok (.ireturn, 1) := by decide +kernel
set_option maxRecDepth 20000 in
theorem ggX5_areFarms_X5_isFarm : GoodIn wsX5_areFarms wsX5_isFarm := goodIn_r _ [5, 6, 7, 8, 4, 9, 10, 11, 12, 13, 14, 15, 16, 17, 18] (by decide +kernel) (by decide +kernel)
set_option maxRecDepth 20000 in
theorem gX5_areFarms_X5_isFarm : GoodIn wsX5_areFarms (wsV RX5 129 RX5 yX5_isFarm wsX5_isFarm) := goodIn_app (goodIn_of _ (by decide +kernel)) ggX5_areFarms_X5_isFarm
theorem dX5_areFarms_0 : decode cX5_areFarms 0 = .ok (.aload_n 0, 1) := by decide +kernel
theorem dX5_areFarms_1 : decode cX5_areFarms 1 = .ok (.iload_n 1, 1) := by decide +kernel
theorem dX5_areFarms_2 : decode cX5_areFarms 2 = .ok (.invokevirtual 129, 3) := by decide +kernel
theorem dX5_areFarms_5 : decode cX5_areFarms 5 = .ok (.ifCond .eq 15, 3) := by decide +kernel
theorem dX5_areFarms_8 : decode cX5_areFarms 8 = .ok (.aload_n 0, 1) := by decide +kernel
theorem dX5_areFarms_9 : decode cX5_areFarms 9 = .ok (.iload_n 2, 1) := by decide +kernel
theorem dX5_areFarms_10 : decode cX5_areFarms 10 = .ok (.invokevirtual 129, 3) := by decide +kernel
theorem dX5_areFarms_13 : decode cX5_areFarms 13 = .ok (.ifCond .eq 7, 3) := by decide +kernel
theorem dX5_areFarms_16 : decode cX5_areFarms 16 = .ok (.iconst 1, 1) := by decide +kernel
theorem dX5_areFarms_17 : decode cX5_areFarms 17 = .ok (.goto 4, 3) := by decide +kernel
theorem dX5_areFarms_20 : decode cX5_areFarms 20 = .ok (.iconst 0, 1) := by decide +kernel
theorem dX5_areFarms_21 : decode cX5_areFarms 21 = .ok (.ireturn, 1) := by decide +kernel
set_option maxRecDepth 20000 in
theorem ggX5_farmAt_X5_isFarm : GoodIn wsX5_farmAt wsX5_isFarm := goodIn_r _ [6, 7, 8, 9, 5, 10, 11, 12, 13, 14, 15, 16, 17, 18, 19] (by decide +kernel) (by decide +kernel)
set_option maxRecDepth 20000 in
theorem gX5_farmAt_X5_isFarm : GoodIn wsX5_farmAt (wsV RX5 129 RX5 yX5_isFarm wsX5_isFarm) := goodIn_app (goodIn_of _ (by decide +kernel)) ggX5_farmAt_X5_isFarm
theorem dX5_farmAt_0 : decode cX5_farmAt 0 = .ok (.aload_n 0, 1) := by decide +kernel
theorem dX5_farmAt_1 : decode cX5_farmAt 1 = .ok (.iload_n 1, 1) := by decide +kernel
theorem dX5_farmAt_2 : decode cX5_farmAt 2 = .ok (.invokevirtual 129, 3) := by decide +kernel
theorem dX5_farmAt_5 : decode cX5_farmAt 5 = .ok (.ifCond .eq 12, 3) := by decide +kernel
theorem dX5_farmAt_8 : decode cX5_farmAt 8 = .ok (.aload_n 0, 1) := by decide +kernel
theorem dX5_farmAt_9 : decode cX5_farmAt 9 = .ok (.getfield 39, 3) := by decide +kernel
theorem dX5_farmAt_12 : decode cX5_farmAt 12 = .ok (.iload_n 1, 1) := by decide +kernel
theorem dX5_farmAt_13 : decode cX5_farmAt 13 = .ok (.aaload, 1) := by decide +kernel
theorem dX5_farmAt_14 : decode cX5_farmAt 14 = .ok (.goto 4, 3) := by decide +kernel
theorem dX5_farmAt_17 : decode cX5_farmAt 17 = .ok (.aconst_null, 1) := by decide +kernel
theorem dX5_farmAt_18 : decode cX5_farmAt 18 = .ok (.areturn, 1) := by decide +kernel
set_option maxRecDepth 20000 in
theorem ggX5_buysFrom_X5_hasBit : GoodIn wsX5_buysFrom wsX5_hasBit := goodIn_r _ [5] (by decide +kernel) (by decide +kernel)
set_option maxRecDepth 20000 in
theorem gX5_buysFrom_X5_hasBit : GoodIn wsX5_buysFrom (va_wsS RX5 153 yX5_hasBit wsX5_hasBit) := goodIn_app (goodIn_of _ (by decide +kernel)) ggX5_buysFrom_X5_hasBit
theorem dX5_buysFrom_0 : decode cX5_buysFrom 0 = .ok (.aload_n 0, 1) := by decide +kernel
theorem dX5_buysFrom_1 : decode cX5_buysFrom 1 = .ok (.getfield 43, 3) := by decide +kernel
theorem dX5_buysFrom_4 : decode cX5_buysFrom 4 = .ok (.iload_n 1, 1) := by decide +kernel
theorem dX5_buysFrom_5 : decode cX5_buysFrom 5 = .ok (.iaload, 1) := by decide +kernel
theorem dX5_buysFrom_6 : decode cX5_buysFrom 6 = .ok (.iload_n 2, 1) := by decide +kernel
theorem dX5_buysFrom_7 : decode cX5_buysFrom 7 = .ok (.invokestatic 153, 3) := by decide +kernel
theorem dX5_buysFrom_10 : decode cX5_buysFrom 10 = .ok (.ireturn, 1) := by decide +kernel
set_option maxRecDepth 20000 in
theorem ggX5_isBarred_X5_areKin : GoodIn wsX5_isBarred wsX5_areKin := goodIn_r _ [6, 7, 8, 9, 10, 5, 11, 12, 13, 14, 15, 16, 17, 18, 19, 20, 44, 45, 46, 47, 48, 49, 50, 51, 35, 36, 37, 38, 39, 40, 41, 42, 43] (by decide +kernel) (by decide +kernel)
set_option maxRecDepth 20000 in
theorem gX5_isBarred_X5_areKin : GoodIn wsX5_isBarred (wsV RX5 218 RX5 yX5_areKin wsX5_areKin) := goodIn_app (goodIn_of _ (by decide +kernel)) ggX5_isBarred_X5_areKin
set_option maxRecDepth 20000 in
theorem ggX5_isBarred_X5_buysFrom : GoodIn wsX5_isBarred wsX5_buysFrom := goodIn_r _ [24, 25, 26, 27, 5, 28, 35, 36, 37, 38, 39, 40, 41, 42, 43] (by decide +kernel) (by decide +kernel)
set_option maxRecDepth 20000 in
theorem gX5_isBarred_X5_buysFrom : GoodIn wsX5_isBarred (wsV RX5 92 RX5 yX5_buysFrom wsX5_buysFrom) := goodIn_app (goodIn_of _ (by decide +kernel)) ggX5_isBarred_X5_buysFrom
set_option maxRecDepth 20000 in
theorem ggX5_isBarred_X4_wasVisitor : GoodIn wsX5_isBarred wsX4_wasVisitor := goodIn_r _ [33, 34, 27, 5, 28, 52, 53, 54, 55] (by decide +kernel) (by decide +kernel)
set_option maxRecDepth 20000 in
theorem gX5_isBarred_X4_wasVisitor : GoodIn wsX5_isBarred (wsV RX5 221 RX4 yX4_wasVisitor wsX4_wasVisitor) := goodIn_app (goodIn_of _ (by decide +kernel)) ggX5_isBarred_X4_wasVisitor
theorem dX5_isBarred_0 : decode cX5_isBarred 0 = .ok (.aload_n 0, 1) := by decide +kernel
theorem dX5_isBarred_1 : decode cX5_isBarred 1 = .ok (.iload_n 1, 1) := by decide +kernel
theorem dX5_isBarred_2 : decode cX5_isBarred 2 = .ok (.iload_n 2, 1) := by decide +kernel
theorem dX5_isBarred_3 : decode cX5_isBarred 3 = .ok (.invokevirtual 218, 3) := by decide +kernel
theorem dX5_isBarred_6 : decode cX5_isBarred 6 = .ok (.ifCond .ne 33, 3) := by decide +kernel
theorem dX5_isBarred_9 : decode cX5_isBarred 9 = .ok (.aload_n 0, 1) := by decide +kernel
theorem dX5_isBarred_10 : decode cX5_isBarred 10 = .ok (.iload_n 1, 1) := by decide +kernel
theorem dX5_isBarred_11 : decode cX5_isBarred 11 = .ok (.iload_n 2, 1) := by decide +kernel
theorem dX5_isBarred_12 : decode cX5_isBarred 12 = .ok (.invokevirtual 92, 3) := by decide +kernel
theorem dX5_isBarred_15 : decode cX5_isBarred 15 = .ok (.ifCond .ne 24, 3) := by decide +kernel
theorem dX5_isBarred_18 : decode cX5_isBarred 18 = .ok (.aload_n 0, 1) := by decide +kernel
theorem dX5_isBarred_19 : decode cX5_isBarred 19 = .ok (.iload_n 2, 1) := by decide +kernel
theorem dX5_isBarred_20 : decode cX5_isBarred 20 = .ok (.iload_n 1, 1) := by decide +kernel
theorem dX5_isBarred_21 : decode cX5_isBarred 21 = .ok (.invokevirtual 92, 3) := by decide +kernel
theorem dX5_isBarred_24 : decode cX5_isBarred 24 = .ok (.ifCond .ne 15, 3) := by decide +kernel
theorem dX5_isBarred_27 : decode cX5_isBarred 27 = .ok (.aload_n 0, 1) := by decide +kernel
theorem dX5_isBarred_28 : decode cX5_isBarred 28 = .ok (.getfield 26, 3) := by decide +kernel
theorem dX5_isBarred_31 : decode cX5_isBarred 31 = .ok (.iload_n 1, 1) := by decide +kernel
theorem dX5_isBarred_32 : decode cX5_isBarred 32 = .ok (.iload_n 2, 1) := by decide +kernel
theorem dX5_isBarred_33 : decode cX5_isBarred 33 = .ok (.invokevirtual 221, 3) := by decide +kernel
theorem dX5_isBarred_36 : decode cX5_isBarred 36 = .ok (.ifCond .eq 7, 3) := by decide +kernel
theorem dX5_isBarred_39 : decode cX5_isBarred 39 = .ok (.iconst 1, 1) := by decide +kernel
theorem dX5_isBarred_40 : decode cX5_isBarred 40 = .ok (.goto 4, 3) := by decide +kernel
theorem dX5_isBarred_43 : decode cX5_isBarred 43 = .ok (.iconst 0, 1) := by decide +kernel
theorem dX5_isBarred_44 : decode cX5_isBarred 44 = .ok (.ireturn, 1) := by decide +kernel
set_option maxRecDepth 20000 in
theorem ggX5_areKin_X5_farmAt : GoodIn wsX5_areKin wsX5_farmAt := goodIn_r _ [6, 7, 8, 9, 10, 5, 11, 12, 13, 14, 15, 24, 25, 26, 27, 28, 29, 30, 31, 32] (by decide +kernel) (by decide +kernel)
set_option maxRecDepth 20000 in
theorem gX5_areKin_X5_farmAt : GoodIn wsX5_areKin (wsV RX5 163 RX5 yX5_farmAt wsX5_farmAt) := goodIn_app (goodIn_of _ (by decide +kernel)) ggX5_areKin_X5_farmAt
theorem dX5_areKin_0 : decode cX5_areKin 0 = .ok (.aload_n 0, 1) := by decide +kernel
theorem dX5_areKin_1 : decode cX5_areKin 1 = .ok (.iload_n 1, 1) := by decide +kernel
theorem dX5_areKin_2 : decode cX5_areKin 2 = .ok (.invokevirtual 163, 3) := by decide +kernel
theorem dX5_areKin_5 : decode cX5_areKin 5 = .ok (.astore_n 3, 1) := by decide +kernel
theorem dX5_areKin_6 : decode cX5_areKin 6 = .ok (.aload_n 0, 1) := by decide +kernel
theorem dX5_areKin_7 : decode cX5_areKin 7 = .ok (.iload_n 2, 1) := by decide +kernel
theorem dX5_areKin_8 : decode cX5_areKin 8 = .ok (.invokevirtual 163, 3) := by decide +kernel
theorem dX5_areKin_11 : decode cX5_areKin 11 = .ok (.astore 4, 2) := by decide +kernel
theorem dX5_areKin_13 : decode cX5_areKin 13 = .ok (.aload_n 3, 1) := by decide +kernel
theorem dX5_areKin_14 : decode cX5_areKin 14 = .ok (.ifnull 24, 3) := by decide +kernel
theorem dX5_areKin_17 : decode cX5_areKin 17 = .ok (.aload 4, 2) := by decide +kernel
theorem dX5_areKin_19 : decode cX5_areKin 19 = .ok (.ifnull 19, 3) := by decide +kernel
theorem dX5_areKin_22 : decode cX5_areKin 22 = .ok (.aload_n 3, 1) := by decide +kernel
theorem dX5_areKin_23 : decode cX5_areKin 23 = .ok (.getfield 191, 3) := by decide +kernel
theorem dX5_areKin_26 : decode cX5_areKin 26 = .ok (.aload 4, 2) := by decide +kernel
theorem dX5_areKin_28 : decode cX5_areKin 28 = .ok (.getfield 191, 3) := by decide +kernel
theorem dX5_areKin_31 : decode cX5_areKin 31 = .ok (.if_icmp .ne 7, 3) := by decide +kernel
theorem dX5_areKin_34 : decode cX5_areKin 34 = .ok (.iconst 1, 1) := by decide +kernel
theorem dX5_areKin_35 : decode cX5_areKin 35 = .ok (.goto 4, 3) := by decide +kernel
theorem dX5_areKin_38 : decode cX5_areKin 38 = .ok (.iconst 0, 1) := by decide +kernel
theorem dX5_areKin_39 : decode cX5_areKin 39 = .ok (.ireturn, 1) := by decide +kernel
set_option maxRecDepth 20000 in
theorem ggX5_weightOf_X5_hasBit : GoodIn wsX5_weightOf wsX5_hasBit := goodIn_r _ [5] (by decide +kernel) (by decide +kernel)
set_option maxRecDepth 20000 in
theorem gX5_weightOf_X5_hasBit : GoodIn wsX5_weightOf (va_wsS RX5 153 yX5_hasBit wsX5_hasBit) := goodIn_app (goodIn_of _ (by decide +kernel)) ggX5_weightOf_X5_hasBit
theorem dX5_weightOf_0 : decode cX5_weightOf 0 = .ok (.iconst 0, 1) := by decide +kernel
theorem dX5_weightOf_1 : decode cX5_weightOf 1 = .ok (.istore_n 2, 1) := by decide +kernel
theorem dX5_weightOf_2 : decode cX5_weightOf 2 = .ok (.iconst 0, 1) := by decide +kernel
theorem dX5_weightOf_3 : decode cX5_weightOf 3 = .ok (.istore_n 3, 1) := by decide +kernel
theorem dX5_weightOf_4 : decode cX5_weightOf 4 = .ok (.iload_n 3, 1) := by decide +kernel
theorem dX5_weightOf_5 : decode cX5_weightOf 5 = .ok (.bipush 8, 2) := by decide +kernel
theorem dX5_weightOf_7 : decode cX5_weightOf 7 = .ok (.if_icmp .ge 26, 3) := by decide +kernel
theorem dX5_weightOf_10 : decode cX5_weightOf 10 = .ok (.iload_n 1, 1) := by decide +kernel
theorem dX5_weightOf_11 : decode cX5_weightOf 11 = .ok (.iload_n 3, 1) := by decide +kernel
theorem dX5_weightOf_12 : decode cX5_weightOf 12 = .ok (.invokestatic 153, 3) := by decide +kernel
theorem dX5_weightOf_15 : decode cX5_weightOf 15 = .ok (.ifCond .eq 12, 3) := by decide +kernel
theorem dX5_weightOf_18 : decode cX5_weightOf 18 = .ok (.iload_n 2, 1) := by decide +kernel
theorem dX5_weightOf_19 : decode cX5_weightOf 19 = .ok (.aload_n 0, 1) := by decide +kernel
theorem dX5_weightOf_20 : decode cX5_weightOf 20 = .ok (.getfield 47, 3) := by decide +kernel
theorem dX5_weightOf_23 : decode cX5_weightOf 23 = .ok (.iload_n 3, 1) := by decide +kernel
theorem dX5_weightOf_24 : decode cX5_weightOf 24 = .ok (.iaload, 1) := by decide +kernel
theorem dX5_weightOf_25 : decode cX5_weightOf 25 = .ok (.iadd, 1) := by decide +kernel
theorem dX5_weightOf_26 : decode cX5_weightOf 26 = .ok (.istore_n 2, 1) := by decide +kernel
theorem dX5_weightOf_27 : decode cX5_weightOf 27 = .ok (.iinc 3 1, 3) := by decide +kernel
theorem dX5_weightOf_30 : decode cX5_weightOf 30 = .ok (.goto (-26), 3) := by decide +kernel
theorem dX5_weightOf_33 : decode cX5_weightOf 33 = .ok (.iload_n 2, 1) := by decide +kernel
theorem dX5_weightOf_34 : decode cX5_weightOf 34 = .ok (.ireturn, 1) := by decide +kernel
set_option maxRecDepth 20000 in
theorem ggX5_countSeals_X5_farmAt : GoodIn wsX5_countSeals wsX5_farmAt := goodIn_r _ [7, 8, 9, 10, 11, 6, 12, 1, 13, 14, 15, 16, 17, 18, 19, 20, 21, 22, 23, 24] (by decide +kernel) (by decide +kernel)
set_option maxRecDepth 20000 in
theorem gX5_countSeals_X5_farmAt : GoodIn wsX5_countSeals (wsV RX5 163 RX5 yX5_farmAt wsX5_farmAt) := goodIn_app (goodIn_of _ (by decide +kernel)) ggX5_countSeals_X5_farmAt
theorem dX5_countSeals_0 : decode cX5_countSeals 0 = .ok (.iconst 0, 1) := by decide +kernel
theorem dX5_countSeals_1 : decode cX5_countSeals 1 = .ok (.istore_n 1, 1) := by decide +kernel
theorem dX5_countSeals_2 : decode cX5_countSeals 2 = .ok (.iconst 0, 1) := by decide +kernel
theorem dX5_countSeals_3 : decode cX5_countSeals 3 = .ok (.istore_n 2, 1) := by decide +kernel
theorem dX5_countSeals_4 : decode cX5_countSeals 4 = .ok (.iload_n 2, 1) := by decide +kernel
theorem dX5_countSeals_5 : decode cX5_countSeals 5 = .ok (.aload_n 0, 1) := by decide +kernel
theorem dX5_countSeals_6 : decode cX5_countSeals 6 = .ok (.getfield 50, 3) := by decide +kernel
theorem dX5_countSeals_9 : decode cX5_countSeals 9 = .ok (.if_icmp .ge 29, 3) := by decide +kernel
theorem dX5_countSeals_12 : decode cX5_countSeals 12 = .ok (.aload_n 0, 1) := by decide +kernel
theorem dX5_countSeals_13 : decode cX5_countSeals 13 = .ok (.iload_n 2, 1) := by decide +kernel
theorem dX5_countSeals_14 : decode cX5_countSeals 14 = .ok (.invokevirtual 163, 3) := by decide +kernel
theorem dX5_countSeals_17 : decode cX5_countSeals 17 = .ok (.astore_n 3, 1) := by decide +kernel
theorem dX5_countSeals_18 : decode cX5_countSeals 18 = .ok (.aload_n 3, 1) := by decide +kernel
theorem dX5_countSeals_19 : decode cX5_countSeals 19 = .ok (.ifnull 13, 3) := by decide +kernel
theorem dX5_countSeals_22 : decode cX5_countSeals 22 = .ok (.aload_n 3, 1) := by decide +kernel
theorem dX5_countSeals_23 : decode cX5_countSeals 23 = .ok (.getfield 167, 3) := by decide +kernel
theorem dX5_countSeals_26 : decode cX5_countSeals 26 = .ok (.ifCond .eq 6, 3) := by decide +kernel
theorem dX5_countSeals_29 : decode cX5_countSeals 29 = .ok (.iinc 1 1, 3) := by decide +kernel
theorem dX5_countSeals_32 : decode cX5_countSeals 32 = .ok (.iinc 2 1, 3) := by decide +kernel
theorem dX5_countSeals_35 : decode cX5_countSeals 35 = .ok (.goto (-31), 3) := by decide +kernel
theorem dX5_countSeals_38 : decode cX5_countSeals 38 = .ok (.iload_n 1, 1) := by decide +kernel
theorem dX5_countSeals_39 : decode cX5_countSeals 39 = .ok (.ireturn, 1) := by decide +kernel
set_option maxRecDepth 20000 in
theorem ggX5_countOut_X5_farmAt : GoodIn wsX5_countOut wsX5_farmAt := goodIn_r _ [6, 7, 8, 9, 10, 5, 11, 1, 12, 13, 14, 21, 22, 23, 24, 25, 26, 27, 28, 29] (by decide +kernel) (by decide +kernel)
set_option maxRecDepth 20000 in
theorem gX5_countOut_X5_farmAt : GoodIn wsX5_countOut (wsV RX5 163 RX5 yX5_farmAt wsX5_farmAt) := goodIn_app (goodIn_of _ (by decide +kernel)) ggX5_countOut_X5_farmAt
set_option maxRecDepth 20000 in
theorem ggX5_countOut_X0_isOut : GoodIn wsX5_countOut wsX0_isOut := goodIn_r _ [19, 20, 30, 31, 32, 33, 34, 35, 36, 37] (by decide +kernel) (by decide +kernel)
set_option maxRecDepth 20000 in
theorem gX5_countOut_X0_isOut : GoodIn wsX5_countOut (wsV RX5 224 RX0 yX0_isOut wsX0_isOut) := goodIn_app (goodIn_of _ (by decide +kernel)) ggX5_countOut_X0_isOut
theorem dX5_countOut_0 : decode cX5_countOut 0 = .ok (.iconst 0, 1) := by decide +kernel
theorem dX5_countOut_1 : decode cX5_countOut 1 = .ok (.istore_n 1, 1) := by decide +kernel
theorem dX5_countOut_2 : decode cX5_countOut 2 = .ok (.iconst 0, 1) := by decide +kernel
theorem dX5_countOut_3 : decode cX5_countOut 3 = .ok (.istore_n 2, 1) := by decide +kernel
theorem dX5_countOut_4 : decode cX5_countOut 4 = .ok (.iload_n 2, 1) := by decide +kernel
theorem dX5_countOut_5 : decode cX5_countOut 5 = .ok (.aload_n 0, 1) := by decide +kernel
theorem dX5_countOut_6 : decode cX5_countOut 6 = .ok (.getfield 50, 3) := by decide +kernel
theorem dX5_countOut_9 : decode cX5_countOut 9 = .ok (.if_icmp .ge 29, 3) := by decide +kernel
theorem dX5_countOut_12 : decode cX5_countOut 12 = .ok (.aload_n 0, 1) := by decide +kernel
theorem dX5_countOut_13 : decode cX5_countOut 13 = .ok (.iload_n 2, 1) := by decide +kernel
theorem dX5_countOut_14 : decode cX5_countOut 14 = .ok (.invokevirtual 163, 3) := by decide +kernel
theorem dX5_countOut_17 : decode cX5_countOut 17 = .ok (.astore_n 3, 1) := by decide +kernel
theorem dX5_countOut_18 : decode cX5_countOut 18 = .ok (.aload_n 3, 1) := by decide +kernel
theorem dX5_countOut_19 : decode cX5_countOut 19 = .ok (.ifnull 13, 3) := by decide +kernel
theorem dX5_countOut_22 : decode cX5_countOut 22 = .ok (.aload_n 3, 1) := by decide +kernel
theorem dX5_countOut_23 : decode cX5_countOut 23 = .ok (.invokevirtual 224, 3) := by decide +kernel
theorem dX5_countOut_26 : decode cX5_countOut 26 = .ok (.ifCond .eq 6, 3) := by decide +kernel
theorem dX5_countOut_29 : decode cX5_countOut 29 = .ok (.iinc 1 1, 3) := by decide +kernel
theorem dX5_countOut_32 : decode cX5_countOut 32 = .ok (.iinc 2 1, 3) := by decide +kernel
theorem dX5_countOut_35 : decode cX5_countOut 35 = .ok (.goto (-31), 3) := by decide +kernel
theorem dX5_countOut_38 : decode cX5_countOut 38 = .ok (.iload_n 1, 1) := by decide +kernel
theorem dX5_countOut_39 : decode cX5_countOut 39 = .ok (.ireturn, 1) := by decide +kernel
set_option maxRecDepth 20000 in
theorem ggX6_init_X6_asAtFirst : GoodIn wsX6_init wsX6_asAtFirst := goodIn_r _ [35] (by decide +kernel) (by decide +kernel)
set_option maxRecDepth 20000 in
theorem gX6_init_X6_asAtFirst : GoodIn wsX6_init (va_wsS RX6 87 yX6_asAtFirst wsX6_asAtFirst) := goodIn_app (goodIn_of _ (by decide +kernel)) ggX6_init_X6_asAtFirst
theorem dX6_init_0 : decode cX6_init 0 = .ok (.aload_n 0, 1) := by decide +kernel
theorem dX6_init_1 : decode cX6_init 1 = .ok (.invokespecial 1, 3) := by decide +kernel
theorem dX6_init_4 : decode cX6_init 4 = .ok (.aload_n 0, 1) := by decide +kernel
theorem dX6_init_5 : decode cX6_init 5 = .ok (.bipush 60, 2) := by decide +kernel
theorem dX6_init_7 : decode cX6_init 7 = .ok (.newarray .byte, 2) := by decide +kernel
theorem dX6_init_9 : decode cX6_init 9 = .ok (.putfield 7, 3) := by decide +kernel
theorem dX6_init_12 : decode cX6_init 12 = .ok (.aload_n 0, 1) := by decide +kernel
theorem dX6_init_13 : decode cX6_init 13 = .ok (.bipush 6, 2) := by decide +kernel
theorem dX6_init_15 : decode cX6_init 15 = .ok (.newarray .int, 2) := by decide +kernel
theorem dX6_init_17 : decode cX6_init 17 = .ok (.putfield 13, 3) := by decide +kernel
theorem dX6_init_20 : decode cX6_init 20 = .ok (.aload_n 0, 1) := by decide +kernel
theorem dX6_init_21 : decode cX6_init 21 = .ok (.bipush 6, 2) := by decide +kernel
theorem dX6_init_23 : decode cX6_init 23 = .ok (.newarray .int, 2) := by decide +kernel
theorem dX6_init_25 : decode cX6_init 25 = .ok (.putfield 17, 3) := by decide +kernel
theorem dX6_init_28 : decode cX6_init 28 = .ok (.aload_n 0, 1) := by decide +kernel
theorem dX6_init_29 : decode cX6_init 29 = .ok (.bipush 10, 2) := by decide +kernel
theorem dX6_init_31 : decode cX6_init 31 = .ok (.newarray .int, 2) := by decide +kernel
theorem dX6_init_33 : decode cX6_init 33 = .ok (.putfield 20, 3) := by decide +kernel
theorem dX6_init_36 : decode cX6_init 36 = .ok (.aload_n 0, 1) := by decide +kernel
theorem dX6_init_37 : decode cX6_init 37 = .ok (.bipush 10, 2) := by decide +kernel
theorem dX6_init_39 : decode cX6_init 39 = .ok (.newarray .int, 2) := by decide +kernel
theorem dX6_init_41 : decode cX6_init 41 = .ok (.putfield 23, 3) := by decide +kernel
theorem dX6_init_44 : decode cX6_init 44 = .ok (.aload_n 0, 1) := by decide +kernel
theorem dX6_init_45 : decode cX6_init 45 = .ok (.bipush 8, 2) := by decide +kernel
theorem dX6_init_47 : decode cX6_init 47 = .ok (.newarray .int, 2) := by decide +kernel
theorem dX6_init_49 : decode cX6_init 49 = .ok (.putfield 26, 3) := by decide +kernel
theorem dX6_init_52 : decode cX6_init 52 = .ok (.aload_n 0, 1) := by decide +kernel
theorem dX6_init_53 : decode cX6_init 53 = .ok (.bipush 10, 2) := by decide +kernel
theorem dX6_init_55 : decode cX6_init 55 = .ok (.newarray .boolean, 2) := by decide +kernel
theorem dX6_init_57 : decode cX6_init 57 = .ok (.putfield 29, 3) := by decide +kernel
theorem dX6_init_60 : decode cX6_init 60 = .ok (.aload_n 0, 1) := by decide +kernel
theorem dX6_init_61 : decode cX6_init 61 = .ok (.bipush 10, 2) := by decide +kernel
theorem dX6_init_63 : decode cX6_init 63 = .ok (.newarray .int, 2) := by decide +kernel
theorem dX6_init_65 : decode cX6_init 65 = .ok (.putfield 33, 3) := by decide +kernel
theorem dX6_init_68 : decode cX6_init 68 = .ok (.aload_n 0, 1) := by decide +kernel
theorem dX6_init_69 : decode cX6_init 69 = .ok (.bipush 10, 2) := by decide +kernel
theorem dX6_init_71 : decode cX6_init 71 = .ok (.newarray .int, 2) := by decide +kernel
theorem dX6_init_73 : decode cX6_init 73 = .ok (.putfield 36, 3) := by decide +kernel
theorem dX6_init_76 : decode cX6_init 76 = .ok (.aload_n 0, 1) := by decide +kernel
theorem dX6_init_77 : decode cX6_init 77 = .ok (.bipush 10, 2) := by decide +kernel
theorem dX6_init_79 : decode cX6_init 79 = .ok (.newarray .int, 2) := by decide +kernel
theorem dX6_init_81 : decode cX6_init 81 = .ok (.putfield 39, 3) := by decide +kernel
theorem dX6_init_84 : decode cX6_init 84 = .ok (.aload_n 0, 1) := by decide +kernel
theorem dX6_init_85 : decode cX6_init 85 = .ok (.bipush 10, 2) := by decide +kernel
theorem dX6_init_87 : decode cX6_init 87 = .ok (.newarray .int, 2) := by decide +kernel
theorem dX6_init_89 : decode cX6_init 89 = .ok (.putfield 42, 3) := by decide +kernel
theorem dX6_init_92 : decode cX6_init 92 = .ok (.aload_n 0, 1) := by decide +kernel
theorem dX6_init_93 : decode cX6_init 93 = .ok (.bipush 10, 2) := by decide +kernel
theorem dX6_init_95 : decode cX6_init 95 = .ok (.newarray .int, 2) := by decide +kernel
theorem dX6_init_97 : decode cX6_init 97 = .ok (.putfield 45, 3) := by decide +kernel
theorem dX6_init_100 : decode cX6_init 100 = .ok (.aload_n 0, 1) := by decide +kernel
theorem dX6_init_101 : decode cX6_init 101 = .ok (.bipush 100, 2) := by decide +kernel
theorem dX6_init_103 : decode cX6_init 103 = .ok (.newarray .boolean, 2) := by decide +kernel
theorem dX6_init_105 : decode cX6_init 105 = .ok (.putfield 48, 3) := by decide +kernel
theorem dX6_init_108 : decode cX6_init 108 = .ok (.aload_n 0, 1) := by decide +kernel
theorem dX6_init_109 : decode cX6_init 109 = .ok (.bipush 100, 2) := by decide +kernel
theorem dX6_init_111 : decode cX6_init 111 = .ok (.newarray .boolean, 2) := by decide +kernel
theorem dX6_init_113 : decode cX6_init 113 = .ok (.putfield 51, 3) := by decide +kernel
theorem dX6_init_116 : decode cX6_init 116 = .ok (.aload_n 0, 1) := by decide +kernel
theorem dX6_init_117 : decode cX6_init 117 = .ok (.bipush 100, 2) := by decide +kernel
theorem dX6_init_119 : decode cX6_init 119 = .ok (.newarray .boolean, 2) := by decide +kernel
theorem dX6_init_121 : decode cX6_init 121 = .ok (.putfield 54, 3) := by decide +kernel
theorem dX6_init_124 : decode cX6_init 124 = .ok (.aload_n 0, 1) := by decide +kernel
theorem dX6_init_125 : decode cX6_init 125 = .ok (.bipush 100, 2) := by decide +kernel
theorem dX6_init_127 : decode cX6_init 127 = .ok (.newarray .int, 2) := by decide +kernel
theorem dX6_init_129 : decode cX6_init 129 = .ok (.putfield 57, 3) := by decide +kernel
theorem dX6_init_132 : decode cX6_init 132 = .ok (.aload_n 0, 1) := by decide +kernel
theorem dX6_init_133 : decode cX6_init 133 = .ok (.bipush 100, 2) := by decide +kernel
theorem dX6_init_135 : decode cX6_init 135 = .ok (.newarray .boolean, 2) := by decide +kernel
theorem dX6_init_137 : decode cX6_init 137 = .ok (.putfield 60, 3) := by decide +kernel
theorem dX6_init_140 : decode cX6_init 140 = .ok (.aload_n 0, 1) := by decide +kernel
theorem dX6_init_141 : decode cX6_init 141 = .ok (.bipush 100, 2) := by decide +kernel
theorem dX6_init_143 : decode cX6_init 143 = .ok (.newarray .boolean, 2) := by decide +kernel
theorem dX6_init_145 : decode cX6_init 145 = .ok (.putfield 63, 3) := by decide +kernel
theorem dX6_init_148 : decode cX6_init 148 = .ok (.aload_n 0, 1) := by decide +kernel
theorem dX6_init_149 : decode cX6_init 149 = .ok (.bipush 100, 2) := by decide +kernel
theorem dX6_init_151 : decode cX6_init 151 = .ok (.newarray .boolean, 2) := by decide +kernel
theorem dX6_init_153 : decode cX6_init 153 = .ok (.putfield 66, 3) := by decide +kernel
theorem dX6_init_156 : decode cX6_init 156 = .ok (.aload_n 0, 1) := by decide +kernel
theorem dX6_init_157 : decode cX6_init 157 = .ok (.bipush 10, 2) := by decide +kernel
theorem dX6_init_159 : decode cX6_init 159 = .ok (.newarray .int, 2) := by decide +kernel
theorem dX6_init_161 : decode cX6_init 161 = .ok (.putfield 69, 3) := by decide +kernel
theorem dX6_init_164 : decode cX6_init 164 = .ok (.aload_n 0, 1) := by decide +kernel
theorem dX6_init_165 : decode cX6_init 165 = .ok (.bipush 10, 2) := by decide +kernel
theorem dX6_init_167 : decode cX6_init 167 = .ok (.newarray .int, 2) := by decide +kernel
theorem dX6_init_169 : decode cX6_init 169 = .ok (.putfield 72, 3) := by decide +kernel
theorem dX6_init_172 : decode cX6_init 172 = .ok (.aload_n 0, 1) := by decide +kernel
theorem dX6_init_173 : decode cX6_init 173 = .ok (.bipush 10, 2) := by decide +kernel
theorem dX6_init_175 : decode cX6_init 175 = .ok (.newarray .int, 2) := by decide +kernel
theorem dX6_init_177 : decode cX6_init 177 = .ok (.putfield 75, 3) := by decide +kernel
theorem dX6_init_180 : decode cX6_init 180 = .ok (.aload_n 0, 1) := by decide +kernel
theorem dX6_init_181 : decode cX6_init 181 = .ok (.bipush 10, 2) := by decide +kernel
theorem dX6_init_183 : decode cX6_init 183 = .ok (.newarray .int, 2) := by decide +kernel
theorem dX6_init_185 : decode cX6_init 185 = .ok (.putfield 78, 3) := by decide +kernel
theorem dX6_init_188 : decode cX6_init 188 = .ok (.aload_n 0, 1) := by decide +kernel
theorem dX6_init_189 : decode cX6_init 189 = .ok (.bipush 20, 2) := by decide +kernel
theorem dX6_init_191 : decode cX6_init 191 = .ok (.newarray .int, 2) := by decide +kernel
theorem dX6_init_193 : decode cX6_init 193 = .ok (.putfield 81, 3) := by decide +kernel
theorem dX6_init_196 : decode cX6_init 196 = .ok (.aload_n 0, 1) := by decide +kernel
theorem dX6_init_197 : decode cX6_init 197 = .ok (.bipush 10, 2) := by decide +kernel
theorem dX6_init_199 : decode cX6_init 199 = .ok (.newarray .int, 2) := by decide +kernel
theorem dX6_init_201 : decode cX6_init 201 = .ok (.putfield 84, 3) := by decide +kernel
theorem dX6_init_204 : decode cX6_init 204 = .ok (.aload_n 0, 1) := by decide +kernel
theorem dX6_init_205 : decode cX6_init 205 = .ok (.getfield 13, 3) := by decide +kernel
theorem dX6_init_208 : decode cX6_init 208 = .ok (.invokestatic 87, 3) := by decide +kernel
theorem dX6_init_211 : decode cX6_init 211 = .ok (.iconst 0, 1) := by decide +kernel
theorem dX6_init_212 : decode cX6_init 212 = .ok (.istore_n 1, 1) := by decide +kernel
theorem dX6_init_213 : decode cX6_init 213 = .ok (.iload_n 1, 1) := by decide +kernel
theorem dX6_init_214 : decode cX6_init 214 = .ok (.bipush 8, 2) := by decide +kernel
theorem dX6_init_216 : decode cX6_init 216 = .ok (.if_icmp .ge 16, 3) := by decide +kernel
theorem dX6_init_219 : decode cX6_init 219 = .ok (.aload_n 0, 1) := by decide +kernel
theorem dX6_init_220 : decode cX6_init 220 = .ok (.getfield 26, 3) := by decide +kernel
theorem dX6_init_223 : decode cX6_init 223 = .ok (.iload_n 1, 1) := by decide +kernel
theorem dX6_init_224 : decode cX6_init 224 = .ok (.iconst 1, 1) := by decide +kernel
theorem dX6_init_225 : decode cX6_init 225 = .ok (.iastore, 1) := by decide +kernel
theorem dX6_init_226 : decode cX6_init 226 = .ok (.iinc 1 1, 3) := by decide +kernel
theorem dX6_init_229 : decode cX6_init 229 = .ok (.goto (-16), 3) := by decide +kernel
theorem dX6_init_232 : decode cX6_init 232 = .ok (.return_, 1) := by decide +kernel
theorem dX6_lies_0 : decode cX6_lies 0 = .ok (.iload_n 0, 1) := by decide +kernel
theorem dX6_lies_1 : decode cX6_lies 1 = .ok (.iload_n 1, 1) := by decide +kernel
theorem dX6_lies_2 : decode cX6_lies 2 = .ok (.if_icmp .lt 12, 3) := by decide +kernel
theorem dX6_lies_5 : decode cX6_lies 5 = .ok (.iload_n 0, 1) := by decide +kernel
theorem dX6_lies_6 : decode cX6_lies 6 = .ok (.iload_n 2, 1) := by decide +kernel
theorem dX6_lies_7 : decode cX6_lies 7 = .ok (.if_icmp .gt 7, 3) := by decide +kernel
theorem dX6_lies_10 : decode cX6_lies 10 = .ok (.iconst 1, 1) := by decide +kernel
theorem dX6_lies_11 : decode cX6_lies 11 = .ok (.goto 4, 3) := by decide +kernel
theorem dX6_lies_14 : decode cX6_lies 14 = .ok (.iconst 0, 1) := by decide +kernel
theorem dX6_lies_15 : decode cX6_lies 15 = .ok (.ireturn, 1) := by decide +kernel
theorem dX6_push_0 : decode cX6_push 0 = .ok (.bipush 24, 2) := by decide +kernel
theorem dX6_push_2 : decode cX6_push 2 = .ok (.istore_n 2, 1) := by decide +kernel
theorem dX6_push_3 : decode cX6_push 3 = .ok (.iload_n 2, 1) := by decide +kernel
theorem dX6_push_4 : decode cX6_push 4 = .ok (.ifCond .lt 32, 3) := by decide +kernel
theorem dX6_push_7 : decode cX6_push 7 = .ok (.aload_n 0, 1) := by decide +kernel
theorem dX6_push_8 : decode cX6_push 8 = .ok (.getfield 7, 3) := by decide +kernel
theorem dX6_push_11 : decode cX6_push 11 = .ok (.aload_n 0, 1) := by decide +kernel
theorem dX6_push_12 : decode cX6_push 12 = .ok (.getfield 91, 3) := by decide +kernel
theorem dX6_push_15 : decode cX6_push 15 = .ok (.iload_n 1, 1) := by decide +kernel
theorem dX6_push_16 : decode cX6_push 16 = .ok (.iload_n 2, 1) := by decide +kernel
theorem dX6_push_17 : decode cX6_push 17 = .ok (.ishr, 1) := by decide +kernel
theorem dX6_push_18 : decode cX6_push 18 = .ok (.i2b, 1) := by decide +kernel
theorem dX6_push_19 : decode cX6_push 19 = .ok (.bastore, 1) := by decide +kernel
theorem dX6_push_20 : decode cX6_push 20 = .ok (.aload_n 0, 1) := by decide +kernel
theorem dX6_push_21 : decode cX6_push 21 = .ok (.dup, 1) := by decide +kernel
theorem dX6_push_22 : decode cX6_push 22 = .ok (.getfield 91, 3) := by decide +kernel
theorem dX6_push_25 : decode cX6_push 25 = .ok (.iconst 1, 1) := by decide +kernel
theorem dX6_push_26 : decode cX6_push 26 = .ok (.iadd, 1) := by decide +kernel
theorem dX6_push_27 : decode cX6_push 27 = .ok (.putfield 91, 3) := by decide +kernel
theorem dX6_push_30 : decode cX6_push 30 = .ok (.iinc 2 (-8), 3) := by decide +kernel
theorem dX6_push_33 : decode cX6_push 33 = .ok (.goto (-30), 3) := by decide +kernel
theorem dX6_push_36 : decode cX6_push 36 = .ok (.return_, 1) := by decide +kernel
set_option maxRecDepth 20000 in
theorem ggX6_feed_X6_push : GoodIn wsX6_feed wsX6_push := goodIn_r _ [6, 7, 1, 8, 9, 10, 11, 12, 13, 14, 15, 16, 17, 18, 19, 20, 21, 22, 23, 24, 25, 26, 27, 28, 29, 30, 31, 32, 33, 34, 35, 36] (by decide +kernel) (by decide +kernel)
set_option maxRecDepth 20000 in
theorem gX6_feed_X6_push : GoodIn wsX6_feed (wsV RX6 95 RX6 yX6_push wsX6_push) := goodIn_app (goodIn_of _ (by decide +kernel)) ggX6_feed_X6_push
theorem dX6_feed_0 : decode cX6_feed 0 = .ok (.aload_n 0, 1) := by decide +kernel
theorem dX6_feed_1 : decode cX6_feed 1 = .ok (.getfield 91, 3) := by decide +kernel
theorem dX6_feed_4 : decode cX6_feed 4 = .ok (.bipush 20, 2) := by decide +kernel
theorem dX6_feed_6 : decode cX6_feed 6 = .ok (.iadd, 1) := by decide +kernel
theorem dX6_feed_7 : decode cX6_feed 7 = .ok (.bipush 60, 2) := by decide +kernel
theorem dX6_feed_9 : decode cX6_feed 9 = .ok (.if_icmp .le 5, 3) := by decide +kernel
theorem dX6_feed_12 : decode cX6_feed 12 = .ok (.iconst (-1), 1) := by decide +kernel
theorem dX6_feed_13 : decode cX6_feed 13 = .ok (.ireturn, 1) := by decide +kernel
theorem dX6_feed_14 : decode cX6_feed 14 = .ok (.aload_n 0, 1) := by decide +kernel
theorem dX6_feed_15 : decode cX6_feed 15 = .ok (.iload_n 1, 1) := by decide +kernel
theorem dX6_feed_16 : decode cX6_feed 16 = .ok (.invokevirtual 95, 3) := by decide +kernel
theorem dX6_feed_19 : decode cX6_feed 19 = .ok (.aload_n 0, 1) := by decide +kernel
theorem dX6_feed_20 : decode cX6_feed 20 = .ok (.iload_n 2, 1) := by decide +kernel
theorem dX6_feed_21 : decode cX6_feed 21 = .ok (.invokevirtual 95, 3) := by decide +kernel
theorem dX6_feed_24 : decode cX6_feed 24 = .ok (.aload_n 0, 1) := by decide +kernel
theorem dX6_feed_25 : decode cX6_feed 25 = .ok (.iload_n 3, 1) := by decide +kernel
theorem dX6_feed_26 : decode cX6_feed 26 = .ok (.invokevirtual 95, 3) := by decide +kernel
theorem dX6_feed_29 : decode cX6_feed 29 = .ok (.aload_n 0, 1) := by decide +kernel
theorem dX6_feed_30 : decode cX6_feed 30 = .ok (.iload 4, 2) := by decide +kernel
theorem dX6_feed_32 : decode cX6_feed 32 = .ok (.invokevirtual 95, 3) := by decide +kernel
theorem dX6_feed_35 : decode cX6_feed 35 = .ok (.aload_n 0, 1) := by decide +kernel
theorem dX6_feed_36 : decode cX6_feed 36 = .ok (.iload 5, 2) := by decide +kernel
theorem dX6_feed_38 : decode cX6_feed 38 = .ok (.invokevirtual 95, 3) := by decide +kernel
theorem dX6_feed_41 : decode cX6_feed 41 = .ok (.aload_n 0, 1) := by decide +kernel
theorem dX6_feed_42 : decode cX6_feed 42 = .ok (.getfield 91, 3) := by decide +kernel
theorem dX6_feed_45 : decode cX6_feed 45 = .ok (.ireturn, 1) := by decide +kernel
theorem dX6_asAtFirst_0 : decode cX6_asAtFirst 0 = .ok (.aload_n 0, 1) := by decide +kernel
theorem dX6_asAtFirst_1 : decode cX6_asAtFirst 1 = .ok (.iconst 0, 1) := by decide +kernel
theorem dX6_asAtFirst_2 : decode cX6_asAtFirst 2 = .ok (.iconst 3, 1) := by decide +kernel
theorem dX6_asAtFirst_3 : decode cX6_asAtFirst 3 = .ok (.iastore, 1) := by decide +kernel
theorem dX6_asAtFirst_4 : decode cX6_asAtFirst 4 = .ok (.aload_n 0, 1) := by decide +kernel
theorem dX6_asAtFirst_5 : decode cX6_asAtFirst 5 = .ok (.iconst 1, 1) := by decide +kernel
theorem dX6_asAtFirst_6 : decode cX6_asAtFirst 6 = .ok (.iconst 3, 1) := by decide +kernel
theorem dX6_asAtFirst_7 : decode cX6_asAtFirst 7 = .ok (.iastore, 1) := by decide +kernel
theorem dX6_asAtFirst_8 : decode cX6_asAtFirst 8 = .ok (.aload_n 0, 1) := by decide +kernel
theorem dX6_asAtFirst_9 : decode cX6_asAtFirst 9 = .ok (.iconst 2, 1) := by decide +kernel
theorem dX6_asAtFirst_10 : decode cX6_asAtFirst 10 = .ok (.iconst 3, 1) := by decide +kernel
theorem dX6_asAtFirst_11 : decode cX6_asAtFirst 11 = .ok (.iastore, 1) := by decide +kernel
theorem dX6_asAtFirst_12 : decode cX6_asAtFirst 12 = .ok (.aload_n 0, 1) := by decide +kernel
theorem dX6_asAtFirst_13 : decode cX6_asAtFirst 13 = .ok (.iconst 3, 1) := by decide +kernel
theorem dX6_asAtFirst_14 : decode cX6_asAtFirst 14 = .ok (.bipush 9, 2) := by decide +kernel
theorem dX6_asAtFirst_16 : decode cX6_asAtFirst 16 = .ok (.iastore, 1) := by decide +kernel
theorem dX6_asAtFirst_17 : decode cX6_asAtFirst 17 = .ok (.aload_n 0, 1) := by decide +kernel
theorem dX6_asAtFirst_18 : decode cX6_asAtFirst 18 = .ok (.iconst 4, 1) := by decide +kernel
theorem dX6_asAtFirst_19 : decode cX6_asAtFirst 19 = .ok (.iconst 2, 1) := by decide +kernel
theorem dX6_asAtFirst_20 : decode cX6_asAtFirst 20 = .ok (.iastore, 1) := by decide +kernel
theorem dX6_asAtFirst_21 : decode cX6_asAtFirst 21 = .ok (.aload_n 0, 1) := by decide +kernel
theorem dX6_asAtFirst_22 : decode cX6_asAtFirst 22 = .ok (.iconst 5, 1) := by decide +kernel
theorem dX6_asAtFirst_23 : decode cX6_asAtFirst 23 = .ok (.bipush 60, 2) := by decide +kernel
theorem dX6_asAtFirst_25 : decode cX6_asAtFirst 25 = .ok (.iastore, 1) := by decide +kernel
theorem dX6_asAtFirst_26 : decode cX6_asAtFirst 26 = .ok (.return_, 1) := by decide +kernel
theorem dX6_letter_0 : decode cX6_letter 0 = .ok (.iload_n 0, 1) := by decide +kernel
theorem dX6_letter_1 : decode cX6_letter 1 = .ok (.lookupswitch 71 #[(98, 67), (103, 69), (110, 59), (118, 61), (119, 63), (120, 65)], 59) := by decide +kernel
theorem dX6_letter_60 : decode cX6_letter 60 = .ok (.iconst 0, 1) := by decide +kernel
theorem dX6_letter_61 : decode cX6_letter 61 = .ok (.ireturn, 1) := by decide +kernel
theorem dX6_letter_62 : decode cX6_letter 62 = .ok (.iconst 1, 1) := by decide +kernel
theorem dX6_letter_63 : decode cX6_letter 63 = .ok (.ireturn, 1) := by decide +kernel
theorem dX6_letter_64 : decode cX6_letter 64 = .ok (.iconst 2, 1) := by decide +kernel
theorem dX6_letter_65 : decode cX6_letter 65 = .ok (.ireturn, 1) := by decide +kernel
theorem dX6_letter_66 : decode cX6_letter 66 = .ok (.iconst 3, 1) := by decide +kernel
theorem dX6_letter_67 : decode cX6_letter 67 = .ok (.ireturn, 1) := by decide +kernel
theorem dX6_letter_68 : decode cX6_letter 68 = .ok (.iconst 4, 1) := by decide +kernel
theorem dX6_letter_69 : decode cX6_letter 69 = .ok (.ireturn, 1) := by decide +kernel
theorem dX6_letter_70 : decode cX6_letter 70 = .ok (.iconst 5, 1) := by decide +kernel
theorem dX6_letter_71 : decode cX6_letter 71 = .ok (.ireturn, 1) := by decide +kernel
theorem dX6_letter_72 : decode cX6_letter 72 = .ok (.iconst (-1), 1) := by decide +kernel
theorem dX6_letter_73 : decode cX6_letter 73 = .ok (.ireturn, 1) := by decide +kernel
set_option maxRecDepth 20000 in
theorem ggX6_canBe_X6_lies : GoodIn wsX6_canBe wsX6_lies := goodIn_r _ [4] (by decide +kernel) (by decide +kernel)
set_option maxRecDepth 20000 in
theorem gX6_canBe_X6_lies : GoodIn wsX6_canBe (va_wsS RX6 99 yX6_lies wsX6_lies) := goodIn_app (goodIn_of _ (by decide +kernel)) ggX6_canBe_X6_lies
theorem dX6_canBe_0 : decode cX6_canBe 0 = .ok (.iload_n 0, 1) := by decide +kernel
theorem dX6_canBe_1 : decode cX6_canBe 1 = .ok (.tableswitch 78 0 5 #[39, 46, 78, 78, 58, 66], 39) := by decide +kernel
theorem dX6_canBe_40 : decode cX6_canBe 40 = .ok (.iload_n 1, 1) := by decide +kernel
theorem dX6_canBe_41 : decode cX6_canBe 41 = .ok (.iconst 1, 1) := by decide +kernel
theorem dX6_canBe_42 : decode cX6_canBe 42 = .ok (.iconst 5, 1) := by decide +kernel
theorem dX6_canBe_43 : decode cX6_canBe 43 = .ok (.invokestatic 99, 3) := by decide +kernel
theorem dX6_canBe_46 : decode cX6_canBe 46 = .ok (.ireturn, 1) := by decide +kernel
theorem dX6_canBe_47 : decode cX6_canBe 47 = .ok (.iload_n 1, 1) := by decide +kernel
theorem dX6_canBe_48 : decode cX6_canBe 48 = .ok (.bipush 9, 2) := by decide +kernel
theorem dX6_canBe_50 : decode cX6_canBe 50 = .ok (.if_icmp .gt 7, 3) := by decide +kernel
theorem dX6_canBe_53 : decode cX6_canBe 53 = .ok (.iconst 1, 1) := by decide +kernel
theorem dX6_canBe_54 : decode cX6_canBe 54 = .ok (.goto 4, 3) := by decide +kernel
theorem dX6_canBe_57 : decode cX6_canBe 57 = .ok (.iconst 0, 1) := by decide +kernel
theorem dX6_canBe_58 : decode cX6_canBe 58 = .ok (.ireturn, 1) := by decide +kernel
theorem dX6_canBe_59 : decode cX6_canBe 59 = .ok (.iload_n 1, 1) := by decide +kernel
theorem dX6_canBe_60 : decode cX6_canBe 60 = .ok (.iconst 1, 1) := by decide +kernel
theorem dX6_canBe_61 : decode cX6_canBe 61 = .ok (.bipush 20, 2) := by decide +kernel
theorem dX6_canBe_63 : decode cX6_canBe 63 = .ok (.invokestatic 99, 3) := by decide +kernel
theorem dX6_canBe_66 : decode cX6_canBe 66 = .ok (.ireturn, 1) := by decide +kernel
theorem dX6_canBe_67 : decode cX6_canBe 67 = .ok (.iload_n 1, 1) := by decide +kernel
theorem dX6_canBe_68 : decode cX6_canBe 68 = .ok (.bipush 100, 2) := by decide +kernel
theorem dX6_canBe_70 : decode cX6_canBe 70 = .ok (.if_icmp .gt 7, 3) := by decide +kernel
theorem dX6_canBe_73 : decode cX6_canBe 73 = .ok (.iconst 1, 1) := by decide +kernel
theorem dX6_canBe_74 : decode cX6_canBe 74 = .ok (.goto 4, 3) := by decide +kernel
theorem dX6_canBe_77 : decode cX6_canBe 77 = .ok (.iconst 0, 1) := by decide +kernel
theorem dX6_canBe_78 : decode cX6_canBe 78 = .ok (.ireturn, 1) := by decide +kernel
theorem dX6_canBe_79 : decode cX6_canBe 79 = .ok (.iload_n 1, 1) := by decide +kernel
theorem dX6_canBe_80 : decode cX6_canBe 80 = .ok (.iconst 1, 1) := by decide +kernel
theorem dX6_canBe_81 : decode cX6_canBe 81 = .ok (.if_icmp .lt 7, 3) := by decide +kernel
theorem dX6_canBe_84 : decode cX6_canBe 84 = .ok (.iconst 1, 1) := by decide +kernel
theorem dX6_canBe_85 : decode cX6_canBe 85 = .ok (.goto 4, 3) := by decide +kernel
theorem dX6_canBe_88 : decode cX6_canBe 88 = .ok (.iconst 0, 1) := by decide +kernel
theorem dX6_canBe_89 : decode cX6_canBe 89 = .ok (.ireturn, 1) := by decide +kernel
theorem dX6_at_0 : decode cX6_at 0 = .ok (.iload_n 1, 1) := by decide +kernel
theorem dX6_at_1 : decode cX6_at 1 = .ok (.iload_n 2, 1) := by decide +kernel
theorem dX6_at_2 : decode cX6_at 2 = .ok (.if_icmp .ge 16, 3) := by decide +kernel
theorem dX6_at_5 : decode cX6_at 5 = .ok (.aload_n 0, 1) := by decide +kernel
theorem dX6_at_6 : decode cX6_at 6 = .ok (.getfield 7, 3) := by decide +kernel
theorem dX6_at_9 : decode cX6_at 9 = .ok (.iload_n 1, 1) := by decide +kernel
theorem dX6_at_10 : decode cX6_at 10 = .ok (.baload, 1) := by decide +kernel
theorem dX6_at_11 : decode cX6_at 11 = .ok (.sipush 255, 3) := by decide +kernel
theorem dX6_at_14 : decode cX6_at 14 = .ok (.iand, 1) := by decide +kernel
theorem dX6_at_15 : decode cX6_at 15 = .ok (.goto 4, 3) := by decide +kernel
theorem dX6_at_18 : decode cX6_at 18 = .ok (.iconst 0, 1) := by decide +kernel
theorem dX6_at_19 : decode cX6_at 19 = .ok (.ireturn, 1) := by decide +kernel
set_option maxRecDepth 20000 in
theorem ggX6_reads_X6_asAtFirst : GoodIn wsX6_reads wsX6_asAtFirst := goodIn_r _ [5] (by decide +kernel) (by decide +kernel)
set_option maxRecDepth 20000 in
theorem gX6_reads_X6_asAtFirst : GoodIn wsX6_reads (va_wsS RX6 87 yX6_asAtFirst wsX6_asAtFirst) := goodIn_app (goodIn_of _ (by decide +kernel)) ggX6_reads_X6_asAtFirst
set_option maxRecDepth 20000 in
theorem ggX6_reads_X6_at : GoodIn wsX6_reads wsX6_at := goodIn_r _ [9, 10, 20, 21, 22, 23, 24, 25, 26, 27, 28, 29, 30, 31, 32, 33, 34, 35, 36, 37, 38, 39, 40, 41, 42, 43, 44, 45, 46, 47, 48] (by decide +kernel) (by decide +kernel)
set_option maxRecDepth 20000 in
theorem gX6_reads_X6_at : GoodIn wsX6_reads (wsV RX6 103 RX6 yX6_at wsX6_at) := goodIn_app (goodIn_of _ (by decide +kernel)) ggX6_reads_X6_at
set_option maxRecDepth 20000 in
theorem ggX6_reads_X6_letter : GoodIn wsX6_reads wsX6_letter := goodIn_r _ [13] (by decide +kernel) (by decide +kernel)
set_option maxRecDepth 20000 in
theorem gX6_reads_X6_letter : GoodIn wsX6_reads (va_wsS RX6 107 yX6_letter wsX6_letter) := goodIn_app (goodIn_of _ (by decide +kernel)) ggX6_reads_X6_letter
set_option maxRecDepth 20000 in
theorem ggX6_reads_X6_lies : GoodIn wsX6_reads wsX6_lies := goodIn_r _ [16] (by decide +kernel) (by decide +kernel)
set_option maxRecDepth 20000 in
theorem gX6_reads_X6_lies : GoodIn wsX6_reads (va_wsS RX6 99 yX6_lies wsX6_lies) := goodIn_app (goodIn_of _ (by decide +kernel)) ggX6_reads_X6_lies
set_option maxRecDepth 20000 in
theorem ggX6_reads_X6_canBe : GoodIn wsX6_reads wsX6_canBe := goodIn_r _ [19, 14, 15, 4, 16] (by decide +kernel) (by decide +kernel)
set_option maxRecDepth 20000 in
theorem gX6_reads_X6_canBe : GoodIn wsX6_reads (va_wsS RX6 111 yX6_canBe wsX6_canBe) := goodIn_app (goodIn_of _ (by decide +kernel)) ggX6_reads_X6_canBe
theorem dX6_reads_0 : decode cX6_reads 0 = .ok (.aload_n 0, 1) := by decide +kernel
theorem dX6_reads_1 : decode cX6_reads 1 = .ok (.getfield 17, 3) := by decide +kernel
theorem dX6_reads_4 : decode cX6_reads 4 = .ok (.invokestatic 87, 3) := by decide +kernel
theorem dX6_reads_7 : decode cX6_reads 7 = .ok (.iconst 0, 1) := by decide +kernel
theorem dX6_reads_8 : decode cX6_reads 8 = .ok (.istore_n 2, 1) := by decide +kernel
theorem dX6_reads_9 : decode cX6_reads 9 = .ok (.iconst 0, 1) := by decide +kernel
theorem dX6_reads_10 : decode cX6_reads 10 = .ok (.istore_n 3, 1) := by decide +kernel
theorem dX6_reads_11 : decode cX6_reads 11 = .ok (.iload_n 3, 1) := by decide +kernel
theorem dX6_reads_12 : decode cX6_reads 12 = .ok (.iload_n 1, 1) := by decide +kernel
theorem dX6_reads_13 : decode cX6_reads 13 = .ok (.if_icmp .gt 168, 3) := by decide +kernel
theorem dX6_reads_16 : decode cX6_reads 16 = .ok (.aload_n 0, 1) := by decide +kernel
theorem dX6_reads_17 : decode cX6_reads 17 = .ok (.iload_n 2, 1) := by decide +kernel
theorem dX6_reads_18 : decode cX6_reads 18 = .ok (.iload_n 1, 1) := by decide +kernel
theorem dX6_reads_19 : decode cX6_reads 19 = .ok (.invokevirtual 103, 3) := by decide +kernel
theorem dX6_reads_22 : decode cX6_reads 22 = .ok (.invokestatic 107, 3) := by decide +kernel
theorem dX6_reads_25 : decode cX6_reads 25 = .ok (.istore 4, 2) := by decide +kernel
theorem dX6_reads_27 : decode cX6_reads 27 = .ok (.iload 4, 2) := by decide +kernel
theorem dX6_reads_29 : decode cX6_reads 29 = .ok (.iconst (-1), 1) := by decide +kernel
theorem dX6_reads_30 : decode cX6_reads 30 = .ok (.if_icmp .ne 8, 3) := by decide +kernel
theorem dX6_reads_33 : decode cX6_reads 33 = .ok (.bipush 100, 2) := by decide +kernel
theorem dX6_reads_35 : decode cX6_reads 35 = .ok (.iload_n 2, 1) := by decide +kernel
theorem dX6_reads_36 : decode cX6_reads 36 = .ok (.iadd, 1) := by decide +kernel
theorem dX6_reads_37 : decode cX6_reads 37 = .ok (.ireturn, 1) := by decide +kernel
theorem dX6_reads_38 : decode cX6_reads 38 = .ok (.iinc 2 1, 3) := by decide +kernel
theorem dX6_reads_41 : decode cX6_reads 41 = .ok (.aload_n 0, 1) := by decide +kernel
theorem dX6_reads_42 : decode cX6_reads 42 = .ok (.iload_n 2, 1) := by decide +kernel
theorem dX6_reads_43 : decode cX6_reads 43 = .ok (.iload_n 1, 1) := by decide +kernel
theorem dX6_reads_44 : decode cX6_reads 44 = .ok (.invokevirtual 103, 3) := by decide +kernel
theorem dX6_reads_47 : decode cX6_reads 47 = .ok (.bipush 48, 2) := by decide +kernel
theorem dX6_reads_49 : decode cX6_reads 49 = .ok (.bipush 57, 2) := by decide +kernel
theorem dX6_reads_51 : decode cX6_reads 51 = .ok (.invokestatic 99, 3) := by decide +kernel
end
section
theorem dX6_reads_54 : decode cX6_reads 54 = .ok (.ifCond .ne 9, 3) := by decide +kernel
theorem dX6_reads_57 : decode cX6_reads 57 = .ok (.sipush 200, 3) := by decide +kernel
theorem dX6_reads_60 : decode cX6_reads 60 = .ok (.iload_n 2, 1) := by decide +kernel
theorem dX6_reads_61 : decode cX6_reads 61 = .ok (.iadd, 1) := by decide +kernel
theorem dX6_reads_62 : decode cX6_reads 62 = .ok (.ireturn, 1) := by decide +kernel
theorem dX6_reads_63 : decode cX6_reads 63 = .ok (.iload_n 2, 1) := by decide +kernel
theorem dX6_reads_64 : decode cX6_reads 64 = .ok (.istore 5, 2) := by decide +kernel
theorem dX6_reads_66 : decode cX6_reads 66 = .ok (.iconst 0, 1) := by decide +kernel
theorem dX6_reads_67 : decode cX6_reads 67 = .ok (.istore 6, 2) := by decide +kernel
theorem dX6_reads_69 : decode cX6_reads 69 = .ok (.aload_n 0, 1) := by decide +kernel
theorem dX6_reads_70 : decode cX6_reads 70 = .ok (.iload_n 2, 1) := by decide +kernel
theorem dX6_reads_71 : decode cX6_reads 71 = .ok (.iload_n 1, 1) := by decide +kernel
theorem dX6_reads_72 : decode cX6_reads 72 = .ok (.invokevirtual 103, 3) := by decide +kernel
theorem dX6_reads_75 : decode cX6_reads 75 = .ok (.bipush 48, 2) := by decide +kernel
theorem dX6_reads_77 : decode cX6_reads 77 = .ok (.bipush 57, 2) := by decide +kernel
theorem dX6_reads_79 : decode cX6_reads 79 = .ok (.invokestatic 99, 3) := by decide +kernel
theorem dX6_reads_82 : decode cX6_reads 82 = .ok (.ifCond .eq 40, 3) := by decide +kernel
theorem dX6_reads_85 : decode cX6_reads 85 = .ok (.iload_n 2, 1) := by decide +kernel
theorem dX6_reads_86 : decode cX6_reads 86 = .ok (.iload 5, 2) := by decide +kernel
theorem dX6_reads_88 : decode cX6_reads 88 = .ok (.iconst 4, 1) := by decide +kernel
theorem dX6_reads_89 : decode cX6_reads 89 = .ok (.iadd, 1) := by decide +kernel
theorem dX6_reads_90 : decode cX6_reads 90 = .ok (.if_icmp .ne 9, 3) := by decide +kernel
theorem dX6_reads_93 : decode cX6_reads 93 = .ok (.sipush 300, 3) := by decide +kernel
theorem dX6_reads_96 : decode cX6_reads 96 = .ok (.iload_n 2, 1) := by decide +kernel
theorem dX6_reads_97 : decode cX6_reads 97 = .ok (.iadd, 1) := by decide +kernel
theorem dX6_reads_98 : decode cX6_reads 98 = .ok (.ireturn, 1) := by decide +kernel
theorem dX6_reads_99 : decode cX6_reads 99 = .ok (.bipush 10, 2) := by decide +kernel
theorem dX6_reads_101 : decode cX6_reads 101 = .ok (.iload 6, 2) := by decide +kernel
theorem dX6_reads_103 : decode cX6_reads 103 = .ok (.imul, 1) := by decide +kernel
theorem dX6_reads_104 : decode cX6_reads 104 = .ok (.aload_n 0, 1) := by decide +kernel
theorem dX6_reads_105 : decode cX6_reads 105 = .ok (.iload_n 2, 1) := by decide +kernel
theorem dX6_reads_106 : decode cX6_reads 106 = .ok (.iload_n 1, 1) := by decide +kernel
theorem dX6_reads_107 : decode cX6_reads 107 = .ok (.invokevirtual 103, 3) := by decide +kernel
theorem dX6_reads_110 : decode cX6_reads 110 = .ok (.iadd, 1) := by decide +kernel
theorem dX6_reads_111 : decode cX6_reads 111 = .ok (.bipush 48, 2) := by decide +kernel
theorem dX6_reads_113 : decode cX6_reads 113 = .ok (.isub, 1) := by decide +kernel
theorem dX6_reads_114 : decode cX6_reads 114 = .ok (.istore 6, 2) := by decide +kernel
theorem dX6_reads_116 : decode cX6_reads 116 = .ok (.iinc 2 1, 3) := by decide +kernel
theorem dX6_reads_119 : decode cX6_reads 119 = .ok (.goto (-50), 3) := by decide +kernel
theorem dX6_reads_122 : decode cX6_reads 122 = .ok (.iload 4, 2) := by decide +kernel
theorem dX6_reads_124 : decode cX6_reads 124 = .ok (.iload 6, 2) := by decide +kernel
theorem dX6_reads_126 : decode cX6_reads 126 = .ok (.invokestatic 111, 3) := by decide +kernel
theorem dX6_reads_129 : decode cX6_reads 129 = .ok (.ifCond .ne 10, 3) := by decide +kernel
theorem dX6_reads_132 : decode cX6_reads 132 = .ok (.sipush 400, 3) := by decide +kernel
theorem dX6_reads_135 : decode cX6_reads 135 = .ok (.iload 5, 2) := by decide +kernel
theorem dX6_reads_137 : decode cX6_reads 137 = .ok (.iadd, 1) := by decide +kernel
theorem dX6_reads_138 : decode cX6_reads 138 = .ok (.ireturn, 1) := by decide +kernel
theorem dX6_reads_139 : decode cX6_reads 139 = .ok (.aload_n 0, 1) := by decide +kernel
theorem dX6_reads_140 : decode cX6_reads 140 = .ok (.getfield 17, 3) := by decide +kernel
theorem dX6_reads_143 : decode cX6_reads 143 = .ok (.iload 4, 2) := by decide +kernel
theorem dX6_reads_145 : decode cX6_reads 145 = .ok (.iload 6, 2) := by decide +kernel
theorem dX6_reads_147 : decode cX6_reads 147 = .ok (.iastore, 1) := by decide +kernel
theorem dX6_reads_148 : decode cX6_reads 148 = .ok (.iload_n 2, 1) := by decide +kernel
theorem dX6_reads_149 : decode cX6_reads 149 = .ok (.iload_n 1, 1) := by decide +kernel
theorem dX6_reads_150 : decode cX6_reads 150 = .ok (.if_icmp .ne 5, 3) := by decide +kernel
theorem dX6_reads_153 : decode cX6_reads 153 = .ok (.iconst 0, 1) := by decide +kernel
theorem dX6_reads_154 : decode cX6_reads 154 = .ok (.ireturn, 1) := by decide +kernel
theorem dX6_reads_155 : decode cX6_reads 155 = .ok (.aload_n 0, 1) := by decide +kernel
theorem dX6_reads_156 : decode cX6_reads 156 = .ok (.iload_n 2, 1) := by decide +kernel
theorem dX6_reads_157 : decode cX6_reads 157 = .ok (.iload_n 1, 1) := by decide +kernel
theorem dX6_reads_158 : decode cX6_reads 158 = .ok (.invokevirtual 103, 3) := by decide +kernel
theorem dX6_reads_161 : decode cX6_reads 161 = .ok (.bipush 59, 2) := by decide +kernel
theorem dX6_reads_163 : decode cX6_reads 163 = .ok (.if_icmp .eq 9, 3) := by decide +kernel
theorem dX6_reads_166 : decode cX6_reads 166 = .ok (.sipush 500, 3) := by decide +kernel
theorem dX6_reads_169 : decode cX6_reads 169 = .ok (.iload_n 2, 1) := by decide +kernel
theorem dX6_reads_170 : decode cX6_reads 170 = .ok (.iadd, 1) := by decide +kernel
theorem dX6_reads_171 : decode cX6_reads 171 = .ok (.ireturn, 1) := by decide +kernel
theorem dX6_reads_172 : decode cX6_reads 172 = .ok (.iinc 2 1, 3) := by decide +kernel
theorem dX6_reads_175 : decode cX6_reads 175 = .ok (.iinc 3 1, 3) := by decide +kernel
theorem dX6_reads_178 : decode cX6_reads 178 = .ok (.goto (-167), 3) := by decide +kernel
theorem dX6_reads_181 : decode cX6_reads 181 = .ok (.bipush 100, 2) := by decide +kernel
theorem dX6_reads_183 : decode cX6_reads 183 = .ok (.iload_n 2, 1) := by decide +kernel
theorem dX6_reads_184 : decode cX6_reads 184 = .ok (.iadd, 1) := by decide +kernel
theorem dX6_reads_185 : decode cX6_reads 185 = .ok (.ireturn, 1) := by decide +kernel
set_option maxRecDepth 20000 in
theorem ggX6_rules_X6_reads : GoodIn wsX6_rules wsX6_reads := goodIn_r _ [8, 3, 9, 10, 7, 11, 12, 13, 14, 15, 16, 17, 18, 19, 20, 21, 22, 23, 24, 25, 26, 27, 28, 29, 30, 31, 32, 33, 34, 35, 36, 37, 38, 39, 40, 41, 42, 43, 44, 45, 46, 47, 48, 49, 50, 51, 52, 53, 54] (by decide +kernel) (by decide +kernel)
set_option maxRecDepth 20000 in
theorem gX6_rules_X6_reads : GoodIn wsX6_rules (wsV RX6 115 RX6 yX6_reads wsX6_reads) := goodIn_app (goodIn_of _ (by decide +kernel)) ggX6_rules_X6_reads
theorem dX6_rules_0 : decode cX6_rules 0 = .ok (.iload_n 1, 1) := by decide +kernel
theorem dX6_rules_1 : decode cX6_rules 1 = .ok (.ifCond .lt 11, 3) := by decide +kernel
theorem dX6_rules_4 : decode cX6_rules 4 = .ok (.iload_n 1, 1) := by decide +kernel
theorem dX6_rules_5 : decode cX6_rules 5 = .ok (.aload_n 0, 1) := by decide +kernel
theorem dX6_rules_6 : decode cX6_rules 6 = .ok (.getfield 91, 3) := by decide +kernel
theorem dX6_rules_9 : decode cX6_rules 9 = .ok (.if_icmp .le 5, 3) := by decide +kernel
theorem dX6_rules_12 : decode cX6_rules 12 = .ok (.iconst (-1), 1) := by decide +kernel
theorem dX6_rules_13 : decode cX6_rules 13 = .ok (.ireturn, 1) := by decide +kernel
theorem dX6_rules_14 : decode cX6_rules 14 = .ok (.aload_n 0, 1) := by decide +kernel
theorem dX6_rules_15 : decode cX6_rules 15 = .ok (.iconst 0, 1) := by decide +kernel
theorem dX6_rules_16 : decode cX6_rules 16 = .ok (.putfield 91, 3) := by decide +kernel
theorem dX6_rules_19 : decode cX6_rules 19 = .ok (.aload_n 0, 1) := by decide +kernel
theorem dX6_rules_20 : decode cX6_rules 20 = .ok (.iload_n 1, 1) := by decide +kernel
theorem dX6_rules_21 : decode cX6_rules 21 = .ok (.invokevirtual 115, 3) := by decide +kernel
theorem dX6_rules_24 : decode cX6_rules 24 = .ok (.istore_n 2, 1) := by decide +kernel
theorem dX6_rules_25 : decode cX6_rules 25 = .ok (.iconst 0, 1) := by decide +kernel
theorem dX6_rules_26 : decode cX6_rules 26 = .ok (.istore_n 3, 1) := by decide +kernel
theorem dX6_rules_27 : decode cX6_rules 27 = .ok (.iload_n 3, 1) := by decide +kernel
theorem dX6_rules_28 : decode cX6_rules 28 = .ok (.bipush 6, 2) := by decide +kernel
theorem dX6_rules_30 : decode cX6_rules 30 = .ok (.if_icmp .ge 25, 3) := by decide +kernel
theorem dX6_rules_33 : decode cX6_rules 33 = .ok (.iload_n 2, 1) := by decide +kernel
theorem dX6_rules_34 : decode cX6_rules 34 = .ok (.ifCond .ne 21, 3) := by decide +kernel
theorem dX6_rules_37 : decode cX6_rules 37 = .ok (.aload_n 0, 1) := by decide +kernel
theorem dX6_rules_38 : decode cX6_rules 38 = .ok (.getfield 13, 3) := by decide +kernel
theorem dX6_rules_41 : decode cX6_rules 41 = .ok (.iload_n 3, 1) := by decide +kernel
theorem dX6_rules_42 : decode cX6_rules 42 = .ok (.aload_n 0, 1) := by decide +kernel
theorem dX6_rules_43 : decode cX6_rules 43 = .ok (.getfield 17, 3) := by decide +kernel
theorem dX6_rules_46 : decode cX6_rules 46 = .ok (.iload_n 3, 1) := by decide +kernel
theorem dX6_rules_47 : decode cX6_rules 47 = .ok (.iaload, 1) := by decide +kernel
theorem dX6_rules_48 : decode cX6_rules 48 = .ok (.iastore, 1) := by decide +kernel
theorem dX6_rules_49 : decode cX6_rules 49 = .ok (.iinc 3 1, 3) := by decide +kernel
theorem dX6_rules_52 : decode cX6_rules 52 = .ok (.goto (-25), 3) := by decide +kernel
theorem dX6_rules_55 : decode cX6_rules 55 = .ok (.iload_n 2, 1) := by decide +kernel
theorem dX6_rules_56 : decode cX6_rules 56 = .ok (.ireturn, 1) := by decide +kernel
set_option maxRecDepth 20000 in
theorem ggX6_isFarm_X6_lies : GoodIn wsX6_isFarm wsX6_lies := goodIn_r _ [5] (by decide +kernel) (by decide +kernel)
set_option maxRecDepth 20000 in
theorem gX6_isFarm_X6_lies : GoodIn wsX6_isFarm (va_wsS RX6 99 yX6_lies wsX6_lies) := goodIn_app (goodIn_of _ (by decide +kernel)) ggX6_isFarm_X6_lies
theorem dX6_isFarm_0 : decode cX6_isFarm 0 = .ok (.iload_n 1, 1) := by decide +kernel
theorem dX6_isFarm_1 : decode cX6_isFarm 1 = .ok (.iconst 0, 1) := by decide +kernel
theorem dX6_isFarm_2 : decode cX6_isFarm 2 = .ok (.aload_n 0, 1) := by decide +kernel
theorem dX6_isFarm_3 : decode cX6_isFarm 3 = .ok (.getfield 118, 3) := by decide +kernel
theorem dX6_isFarm_6 : decode cX6_isFarm 6 = .ok (.iconst 1, 1) := by decide +kernel
theorem dX6_isFarm_7 : decode cX6_isFarm 7 = .ok (.isub, 1) := by decide +kernel
theorem dX6_isFarm_8 : decode cX6_isFarm 8 = .ok (.invokestatic 99, 3) := by decide +kernel
theorem dX6_isFarm_11 : decode cX6_isFarm 11 = .ok (.ireturn, 1) := by decide +kernel
set_option maxRecDepth 20000 in
theorem ggX6_farm_X6_lies : GoodIn wsX6_farm wsX6_lies := goodIn_r _ [7] (by decide +kernel) (by decide +kernel)
set_option maxRecDepth 20000 in
theorem gX6_farm_X6_lies : GoodIn wsX6_farm (va_wsS RX6 99 yX6_lies wsX6_lies) := goodIn_app (goodIn_of _ (by decide +kernel)) ggX6_farm_X6_lies
theorem dX6_farm_0 : decode cX6_farm 0 = .ok (.aload_n 0, 1) := by decide +kernel
theorem dX6_farm_1 : decode cX6_farm 1 = .ok (.getfield 118, 3) := by decide +kernel
theorem dX6_farm_4 : decode cX6_farm 4 = .ok (.bipush 10, 2) := by decide +kernel
theorem dX6_farm_6 : decode cX6_farm 6 = .ok (.if_icmp .eq 22, 3) := by decide +kernel
theorem dX6_farm_9 : decode cX6_farm 9 = .ok (.iload_n 1, 1) := by decide +kernel
theorem dX6_farm_10 : decode cX6_farm 10 = .ok (.iconst 0, 1) := by decide +kernel
theorem dX6_farm_11 : decode cX6_farm 11 = .ok (.bipush 7, 2) := by decide +kernel
theorem dX6_farm_13 : decode cX6_farm 13 = .ok (.invokestatic 99, 3) := by decide +kernel
theorem dX6_farm_16 : decode cX6_farm 16 = .ok (.ifCond .eq 12, 3) := by decide +kernel
theorem dX6_farm_19 : decode cX6_farm 19 = .ok (.iload_n 2, 1) := by decide +kernel
theorem dX6_farm_20 : decode cX6_farm 20 = .ok (.iconst 0, 1) := by decide +kernel
theorem dX6_farm_21 : decode cX6_farm 21 = .ok (.iconst 3, 1) := by decide +kernel
theorem dX6_farm_22 : decode cX6_farm 22 = .ok (.invokestatic 99, 3) := by decide +kernel
theorem dX6_farm_25 : decode cX6_farm 25 = .ok (.ifCond .ne 5, 3) := by decide +kernel
theorem dX6_farm_28 : decode cX6_farm 28 = .ok (.iconst (-1), 1) := by decide +kernel
theorem dX6_farm_29 : decode cX6_farm 29 = .ok (.ireturn, 1) := by decide +kernel
theorem dX6_farm_30 : decode cX6_farm 30 = .ok (.aload_n 0, 1) := by decide +kernel
theorem dX6_farm_31 : decode cX6_farm 31 = .ok (.getfield 20, 3) := by decide +kernel
theorem dX6_farm_34 : decode cX6_farm 34 = .ok (.aload_n 0, 1) := by decide +kernel
theorem dX6_farm_35 : decode cX6_farm 35 = .ok (.getfield 118, 3) := by decide +kernel
theorem dX6_farm_38 : decode cX6_farm 38 = .ok (.iload_n 1, 1) := by decide +kernel
theorem dX6_farm_39 : decode cX6_farm 39 = .ok (.iastore, 1) := by decide +kernel
theorem dX6_farm_40 : decode cX6_farm 40 = .ok (.aload_n 0, 1) := by decide +kernel
theorem dX6_farm_41 : decode cX6_farm 41 = .ok (.getfield 23, 3) := by decide +kernel
theorem dX6_farm_44 : decode cX6_farm 44 = .ok (.aload_n 0, 1) := by decide +kernel
theorem dX6_farm_45 : decode cX6_farm 45 = .ok (.getfield 118, 3) := by decide +kernel
theorem dX6_farm_48 : decode cX6_farm 48 = .ok (.iload_n 2, 1) := by decide +kernel
theorem dX6_farm_49 : decode cX6_farm 49 = .ok (.iastore, 1) := by decide +kernel
theorem dX6_farm_50 : decode cX6_farm 50 = .ok (.aload_n 0, 1) := by decide +kernel
theorem dX6_farm_51 : decode cX6_farm 51 = .ok (.dup, 1) := by decide +kernel
theorem dX6_farm_52 : decode cX6_farm 52 = .ok (.getfield 118, 3) := by decide +kernel
theorem dX6_farm_55 : decode cX6_farm 55 = .ok (.iconst 1, 1) := by decide +kernel
theorem dX6_farm_56 : decode cX6_farm 56 = .ok (.iadd, 1) := by decide +kernel
theorem dX6_farm_57 : decode cX6_farm 57 = .ok (.putfield 118, 3) := by decide +kernel
theorem dX6_farm_60 : decode cX6_farm 60 = .ok (.aload_n 0, 1) := by decide +kernel
theorem dX6_farm_61 : decode cX6_farm 61 = .ok (.getfield 118, 3) := by decide +kernel
theorem dX6_farm_64 : decode cX6_farm 64 = .ok (.iconst 1, 1) := by decide +kernel
theorem dX6_farm_65 : decode cX6_farm 65 = .ok (.isub, 1) := by decide +kernel
theorem dX6_farm_66 : decode cX6_farm 66 = .ok (.ireturn, 1) := by decide +kernel
set_option maxRecDepth 20000 in
theorem ggX6_buys_X6_isFarm : GoodIn wsX6_buys wsX6_isFarm := goodIn_r _ [6, 7, 8, 9, 5, 10, 11, 12, 13, 14, 15, 16, 17, 18, 19, 20, 21, 22, 23, 24, 25, 26, 27, 28, 29, 30, 31, 32, 33, 34, 35, 36, 37, 38, 39] (by decide +kernel) (by decide +kernel)
set_option maxRecDepth 20000 in
theorem gX6_buys_X6_isFarm : GoodIn wsX6_buys (wsV RX6 121 RX6 yX6_isFarm wsX6_isFarm) := goodIn_app (goodIn_of _ (by decide +kernel)) ggX6_buys_X6_isFarm
theorem dX6_buys_0 : decode cX6_buys 0 = .ok (.aload_n 0, 1) := by decide +kernel
theorem dX6_buys_1 : decode cX6_buys 1 = .ok (.iload_n 1, 1) := by decide +kernel
theorem dX6_buys_2 : decode cX6_buys 2 = .ok (.invokevirtual 121, 3) := by decide +kernel
theorem dX6_buys_5 : decode cX6_buys 5 = .ok (.ifCond .eq 31, 3) := by decide +kernel
theorem dX6_buys_8 : decode cX6_buys 8 = .ok (.aload_n 0, 1) := by decide +kernel
theorem dX6_buys_9 : decode cX6_buys 9 = .ok (.iload_n 2, 1) := by decide +kernel
theorem dX6_buys_10 : decode cX6_buys 10 = .ok (.invokevirtual 121, 3) := by decide +kernel
theorem dX6_buys_13 : decode cX6_buys 13 = .ok (.ifCond .eq 23, 3) := by decide +kernel
theorem dX6_buys_16 : decode cX6_buys 16 = .ok (.iload_n 1, 1) := by decide +kernel
theorem dX6_buys_17 : decode cX6_buys 17 = .ok (.iload_n 2, 1) := by decide +kernel
theorem dX6_buys_18 : decode cX6_buys 18 = .ok (.if_icmp .eq 18, 3) := by decide +kernel
theorem dX6_buys_21 : decode cX6_buys 21 = .ok (.aload_n 0, 1) := by decide +kernel
theorem dX6_buys_22 : decode cX6_buys 22 = .ok (.getfield 48, 3) := by decide +kernel
theorem dX6_buys_25 : decode cX6_buys 25 = .ok (.bipush 10, 2) := by decide +kernel
theorem dX6_buys_27 : decode cX6_buys 27 = .ok (.iload_n 1, 1) := by decide +kernel
theorem dX6_buys_28 : decode cX6_buys 28 = .ok (.imul, 1) := by decide +kernel
theorem dX6_buys_29 : decode cX6_buys 29 = .ok (.iload_n 2, 1) := by decide +kernel
theorem dX6_buys_30 : decode cX6_buys 30 = .ok (.iadd, 1) := by decide +kernel
theorem dX6_buys_31 : decode cX6_buys 31 = .ok (.baload, 1) := by decide +kernel
theorem dX6_buys_32 : decode cX6_buys 32 = .ok (.iload_n 3, 1) := by decide +kernel
theorem dX6_buys_33 : decode cX6_buys 33 = .ok (.if_icmp .ne 5, 3) := by decide +kernel
theorem dX6_buys_36 : decode cX6_buys 36 = .ok (.iconst 0, 1) := by decide +kernel
theorem dX6_buys_37 : decode cX6_buys 37 = .ok (.ireturn, 1) := by decide +kernel
theorem dX6_buys_38 : decode cX6_buys 38 = .ok (.aload_n 0, 1) := by decide +kernel
theorem dX6_buys_39 : decode cX6_buys 39 = .ok (.getfield 48, 3) := by decide +kernel
theorem dX6_buys_42 : decode cX6_buys 42 = .ok (.bipush 10, 2) := by decide +kernel
theorem dX6_buys_44 : decode cX6_buys 44 = .ok (.iload_n 1, 1) := by decide +kernel
theorem dX6_buys_45 : decode cX6_buys 45 = .ok (.imul, 1) := by decide +kernel
theorem dX6_buys_46 : decode cX6_buys 46 = .ok (.iload_n 2, 1) := by decide +kernel
theorem dX6_buys_47 : decode cX6_buys 47 = .ok (.iadd, 1) := by decide +kernel
theorem dX6_buys_48 : decode cX6_buys 48 = .ok (.iload_n 3, 1) := by decide +kernel
theorem dX6_buys_49 : decode cX6_buys 49 = .ok (.bastore, 1) := by decide +kernel
theorem dX6_buys_50 : decode cX6_buys 50 = .ok (.iconst 1, 1) := by decide +kernel
theorem dX6_buys_51 : decode cX6_buys 51 = .ok (.ireturn, 1) := by decide +kernel
set_option maxRecDepth 20000 in
theorem ggX6_weight_X6_lies : GoodIn wsX6_weight wsX6_lies := goodIn_r _ [5] (by decide +kernel) (by decide +kernel)
set_option maxRecDepth 20000 in
theorem gX6_weight_X6_lies : GoodIn wsX6_weight (va_wsS RX6 99 yX6_lies wsX6_lies) := goodIn_app (goodIn_of _ (by decide +kernel)) ggX6_weight_X6_lies
theorem dX6_weight_0 : decode cX6_weight 0 = .ok (.iload_n 1, 1) := by decide +kernel
theorem dX6_weight_1 : decode cX6_weight 1 = .ok (.iconst 0, 1) := by decide +kernel
theorem dX6_weight_2 : decode cX6_weight 2 = .ok (.bipush 7, 2) := by decide +kernel
theorem dX6_weight_4 : decode cX6_weight 4 = .ok (.invokestatic 99, 3) := by decide +kernel
theorem dX6_weight_7 : decode cX6_weight 7 = .ok (.ifCond .eq 13, 3) := by decide +kernel
theorem dX6_weight_10 : decode cX6_weight 10 = .ok (.iload_n 2, 1) := by decide +kernel
theorem dX6_weight_11 : decode cX6_weight 11 = .ok (.iconst 1, 1) := by decide +kernel
theorem dX6_weight_12 : decode cX6_weight 12 = .ok (.bipush 99, 2) := by decide +kernel
theorem dX6_weight_14 : decode cX6_weight 14 = .ok (.invokestatic 99, 3) := by decide +kernel
theorem dX6_weight_17 : decode cX6_weight 17 = .ok (.ifCond .ne 5, 3) := by decide +kernel
theorem dX6_weight_20 : decode cX6_weight 20 = .ok (.iconst 0, 1) := by decide +kernel
theorem dX6_weight_21 : decode cX6_weight 21 = .ok (.ireturn, 1) := by decide +kernel
theorem dX6_weight_22 : decode cX6_weight 22 = .ok (.aload_n 0, 1) := by decide +kernel
theorem dX6_weight_23 : decode cX6_weight 23 = .ok (.getfield 26, 3) := by decide +kernel
theorem dX6_weight_26 : decode cX6_weight 26 = .ok (.iload_n 1, 1) := by decide +kernel
theorem dX6_weight_27 : decode cX6_weight 27 = .ok (.iload_n 2, 1) := by decide +kernel
theorem dX6_weight_28 : decode cX6_weight 28 = .ok (.iastore, 1) := by decide +kernel
theorem dX6_weight_29 : decode cX6_weight 29 = .ok (.iconst 1, 1) := by decide +kernel
theorem dX6_weight_30 : decode cX6_weight 30 = .ok (.ireturn, 1) := by decide +kernel
theorem dX6_isBarred_0 : decode cX6_isBarred 0 = .ok (.aload_n 0, 1) := by decide +kernel
theorem dX6_isBarred_1 : decode cX6_isBarred 1 = .ok (.getfield 20, 3) := by decide +kernel
theorem dX6_isBarred_4 : decode cX6_isBarred 4 = .ok (.iload_n 1, 1) := by decide +kernel
theorem dX6_isBarred_5 : decode cX6_isBarred 5 = .ok (.iaload, 1) := by decide +kernel
theorem dX6_isBarred_6 : decode cX6_isBarred 6 = .ok (.aload_n 0, 1) := by decide +kernel
theorem dX6_isBarred_7 : decode cX6_isBarred 7 = .ok (.getfield 20, 3) := by decide +kernel
theorem dX6_isBarred_10 : decode cX6_isBarred 10 = .ok (.iload_n 2, 1) := by decide +kernel
theorem dX6_isBarred_11 : decode cX6_isBarred 11 = .ok (.iaload, 1) := by decide +kernel
theorem dX6_isBarred_12 : decode cX6_isBarred 12 = .ok (.if_icmp .eq 45, 3) := by decide +kernel
theorem dX6_isBarred_15 : decode cX6_isBarred 15 = .ok (.aload_n 0, 1) := by decide +kernel
theorem dX6_isBarred_16 : decode cX6_isBarred 16 = .ok (.getfield 48, 3) := by decide +kernel
theorem dX6_isBarred_19 : decode cX6_isBarred 19 = .ok (.bipush 10, 2) := by decide +kernel
theorem dX6_isBarred_21 : decode cX6_isBarred 21 = .ok (.iload_n 1, 1) := by decide +kernel
theorem dX6_isBarred_22 : decode cX6_isBarred 22 = .ok (.imul, 1) := by decide +kernel
theorem dX6_isBarred_23 : decode cX6_isBarred 23 = .ok (.iload_n 2, 1) := by decide +kernel
theorem dX6_isBarred_24 : decode cX6_isBarred 24 = .ok (.iadd, 1) := by decide +kernel
theorem dX6_isBarred_25 : decode cX6_isBarred 25 = .ok (.baload, 1) := by decide +kernel
theorem dX6_isBarred_26 : decode cX6_isBarred 26 = .ok (.ifCond .ne 31, 3) := by decide +kernel
theorem dX6_isBarred_29 : decode cX6_isBarred 29 = .ok (.aload_n 0, 1) := by decide +kernel
theorem dX6_isBarred_30 : decode cX6_isBarred 30 = .ok (.getfield 48, 3) := by decide +kernel
theorem dX6_isBarred_33 : decode cX6_isBarred 33 = .ok (.bipush 10, 2) := by decide +kernel
theorem dX6_isBarred_35 : decode cX6_isBarred 35 = .ok (.iload_n 2, 1) := by decide +kernel
theorem dX6_isBarred_36 : decode cX6_isBarred 36 = .ok (.imul, 1) := by decide +kernel
theorem dX6_isBarred_37 : decode cX6_isBarred 37 = .ok (.iload_n 1, 1) := by decide +kernel
theorem dX6_isBarred_38 : decode cX6_isBarred 38 = .ok (.iadd, 1) := by decide +kernel
theorem dX6_isBarred_39 : decode cX6_isBarred 39 = .ok (.baload, 1) := by decide +kernel
theorem dX6_isBarred_40 : decode cX6_isBarred 40 = .ok (.ifCond .ne 17, 3) := by decide +kernel
theorem dX6_isBarred_43 : decode cX6_isBarred 43 = .ok (.aload_n 0, 1) := by decide +kernel
theorem dX6_isBarred_44 : decode cX6_isBarred 44 = .ok (.getfield 54, 3) := by decide +kernel
theorem dX6_isBarred_47 : decode cX6_isBarred 47 = .ok (.bipush 10, 2) := by decide +kernel
theorem dX6_isBarred_49 : decode cX6_isBarred 49 = .ok (.iload_n 1, 1) := by decide +kernel
theorem dX6_isBarred_50 : decode cX6_isBarred 50 = .ok (.imul, 1) := by decide +kernel
theorem dX6_isBarred_51 : decode cX6_isBarred 51 = .ok (.iload_n 2, 1) := by decide +kernel
theorem dX6_isBarred_52 : decode cX6_isBarred 52 = .ok (.iadd, 1) := by decide +kernel
theorem dX6_isBarred_53 : decode cX6_isBarred 53 = .ok (.baload, 1) := by decide +kernel
theorem dX6_isBarred_54 : decode cX6_isBarred 54 = .ok (.ifCond .eq 7, 3) := by decide +kernel
theorem dX6_isBarred_57 : decode cX6_isBarred 57 = .ok (.iconst 1, 1) := by decide +kernel
theorem dX6_isBarred_58 : decode cX6_isBarred 58 = .ok (.goto 4, 3) := by decide +kernel
theorem dX6_isBarred_61 : decode cX6_isBarred 61 = .ok (.iconst 0, 1) := by decide +kernel
theorem dX6_isBarred_62 : decode cX6_isBarred 62 = .ok (.ireturn, 1) := by decide +kernel
set_option maxRecDepth 20000 in
theorem ggX6_barred_X6_isFarm : GoodIn wsX6_barred wsX6_isFarm := goodIn_r _ [5, 6, 7, 8, 4, 9, 17, 18, 19, 20, 21, 22, 23, 24, 25, 26, 27, 28, 29, 30, 31, 32, 33, 34, 35, 36, 37, 38, 39, 40, 41, 42, 43, 44, 45] (by decide +kernel) (by decide +kernel)
set_option maxRecDepth 20000 in
theorem gX6_barred_X6_isFarm : GoodIn wsX6_barred (wsV RX6 121 RX6 yX6_isFarm wsX6_isFarm) := goodIn_app (goodIn_of _ (by decide +kernel)) ggX6_barred_X6_isFarm
set_option maxRecDepth 20000 in
theorem ggX6_barred_X6_isBarred : GoodIn wsX6_barred wsX6_isBarred := goodIn_r _ [13, 14, 15, 16, 17, 18, 19, 20, 21, 22, 23, 24, 25, 26, 27, 28, 29, 30, 31, 32, 33, 34, 35, 36, 37, 38, 39, 40, 41, 42, 43, 44, 45] (by decide +kernel) (by decide +kernel)
set_option maxRecDepth 20000 in
theorem gX6_barred_X6_isBarred : GoodIn wsX6_barred (wsV RX6 125 RX6 yX6_isBarred wsX6_isBarred) := goodIn_app (goodIn_of _ (by decide +kernel)) ggX6_barred_X6_isBarred
theorem dX6_barred_0 : decode cX6_barred 0 = .ok (.aload_n 0, 1) := by decide +kernel
theorem dX6_barred_1 : decode cX6_barred 1 = .ok (.iload_n 1, 1) := by decide +kernel
theorem dX6_barred_2 : decode cX6_barred 2 = .ok (.invokevirtual 121, 3) := by decide +kernel
theorem dX6_barred_5 : decode cX6_barred 5 = .ok (.ifCond .eq 11, 3) := by decide +kernel
theorem dX6_barred_8 : decode cX6_barred 8 = .ok (.aload_n 0, 1) := by decide +kernel
theorem dX6_barred_9 : decode cX6_barred 9 = .ok (.iload_n 2, 1) := by decide +kernel
theorem dX6_barred_10 : decode cX6_barred 10 = .ok (.invokevirtual 121, 3) := by decide +kernel
theorem dX6_barred_13 : decode cX6_barred 13 = .ok (.ifCond .ne 7, 3) := by decide +kernel
theorem dX6_barred_16 : decode cX6_barred 16 = .ok (.iconst (-1), 1) := by decide +kernel
theorem dX6_barred_17 : decode cX6_barred 17 = .ok (.goto 17, 3) := by decide +kernel
theorem dX6_barred_20 : decode cX6_barred 20 = .ok (.aload_n 0, 1) := by decide +kernel
theorem dX6_barred_21 : decode cX6_barred 21 = .ok (.iload_n 1, 1) := by decide +kernel
theorem dX6_barred_22 : decode cX6_barred 22 = .ok (.iload_n 2, 1) := by decide +kernel
theorem dX6_barred_23 : decode cX6_barred 23 = .ok (.invokevirtual 125, 3) := by decide +kernel
theorem dX6_barred_26 : decode cX6_barred 26 = .ok (.ifCond .eq 7, 3) := by decide +kernel
theorem dX6_barred_29 : decode cX6_barred 29 = .ok (.iconst 1, 1) := by decide +kernel
theorem dX6_barred_30 : decode cX6_barred 30 = .ok (.goto 4, 3) := by decide +kernel
theorem dX6_barred_33 : decode cX6_barred 33 = .ok (.iconst 0, 1) := by decide +kernel
theorem dX6_barred_34 : decode cX6_barred 34 = .ok (.ireturn, 1) := by decide +kernel
set_option maxRecDepth 20000 in
theorem ggX6_grows_X6_turns : GoodIn wsX6_grows wsX6_turns := goodIn_r _ [14, 9, 2, 1, 8, 4, 15, 16, 17, 18, 19, 20, 21, 22, 23, 24, 25, 26, 27, 28, 29, 30, 31, 32, 33, 34, 35, 36, 37, 38, 39, 40, 41, 42, 43] (by decide +kernel) (by decide +kernel)
set_option maxRecDepth 20000 in
theorem gX6_grows_X6_turns : GoodIn wsX6_grows (wsV RX6 128 RX6 yX6_turns wsX6_turns) := goodIn_app (goodIn_of _ (by decide +kernel)) ggX6_grows_X6_turns
theorem dX6_grows_0 : decode cX6_grows 0 = .ok (.iconst 0, 1) := by decide +kernel
theorem dX6_grows_1 : decode cX6_grows 1 = .ok (.istore_n 1, 1) := by decide +kernel
theorem dX6_grows_2 : decode cX6_grows 2 = .ok (.iconst 0, 1) := by decide +kernel
theorem dX6_grows_3 : decode cX6_grows 3 = .ok (.istore_n 2, 1) := by decide +kernel
theorem dX6_grows_4 : decode cX6_grows 4 = .ok (.iload_n 2, 1) := by decide +kernel
theorem dX6_grows_5 : decode cX6_grows 5 = .ok (.bipush 10, 2) := by decide +kernel
theorem dX6_grows_7 : decode cX6_grows 7 = .ok (.if_icmp .ge 23, 3) := by decide +kernel
theorem dX6_grows_10 : decode cX6_grows 10 = .ok (.aload_n 0, 1) := by decide +kernel
theorem dX6_grows_11 : decode cX6_grows 11 = .ok (.getfield 75, 3) := by decide +kernel
theorem dX6_grows_14 : decode cX6_grows 14 = .ok (.iload_n 2, 1) := by decide +kernel
theorem dX6_grows_15 : decode cX6_grows 15 = .ok (.iconst (-1), 1) := by decide +kernel
theorem dX6_grows_16 : decode cX6_grows 16 = .ok (.iastore, 1) := by decide +kernel
theorem dX6_grows_17 : decode cX6_grows 17 = .ok (.aload_n 0, 1) := by decide +kernel
theorem dX6_grows_18 : decode cX6_grows 18 = .ok (.getfield 78, 3) := by decide +kernel
theorem dX6_grows_21 : decode cX6_grows 21 = .ok (.iload_n 2, 1) := by decide +kernel
theorem dX6_grows_22 : decode cX6_grows 22 = .ok (.iconst (-1), 1) := by decide +kernel
theorem dX6_grows_23 : decode cX6_grows 23 = .ok (.iastore, 1) := by decide +kernel
theorem dX6_grows_24 : decode cX6_grows 24 = .ok (.iinc 2 1, 3) := by decide +kernel
theorem dX6_grows_27 : decode cX6_grows 27 = .ok (.goto (-23), 3) := by decide +kernel
theorem dX6_grows_30 : decode cX6_grows 30 = .ok (.iconst 0, 1) := by decide +kernel
theorem dX6_grows_31 : decode cX6_grows 31 = .ok (.istore_n 2, 1) := by decide +kernel
theorem dX6_grows_32 : decode cX6_grows 32 = .ok (.iload_n 2, 1) := by decide +kernel
theorem dX6_grows_33 : decode cX6_grows 33 = .ok (.aload_n 0, 1) := by decide +kernel
theorem dX6_grows_34 : decode cX6_grows 34 = .ok (.getfield 118, 3) := by decide +kernel
theorem dX6_grows_37 : decode cX6_grows 37 = .ok (.if_icmp .ge 45, 3) := by decide +kernel
theorem dX6_grows_40 : decode cX6_grows 40 = .ok (.aload_n 0, 1) := by decide +kernel
theorem dX6_grows_41 : decode cX6_grows 41 = .ok (.getfield 69, 3) := by decide +kernel
theorem dX6_grows_44 : decode cX6_grows 44 = .ok (.iload_n 2, 1) := by decide +kernel
theorem dX6_grows_45 : decode cX6_grows 45 = .ok (.iaload, 1) := by decide +kernel
theorem dX6_grows_46 : decode cX6_grows 46 = .ok (.aload_n 0, 1) := by decide +kernel
theorem dX6_grows_47 : decode cX6_grows 47 = .ok (.getfield 13, 3) := by decide +kernel
theorem dX6_grows_50 : decode cX6_grows 50 = .ok (.iconst 1, 1) := by decide +kernel
theorem dX6_grows_51 : decode cX6_grows 51 = .ok (.iaload, 1) := by decide +kernel
theorem dX6_grows_52 : decode cX6_grows 52 = .ok (.if_icmp .lt 6, 3) := by decide +kernel
theorem dX6_grows_55 : decode cX6_grows 55 = .ok (.goto 21, 3) := by decide +kernel
theorem dX6_grows_58 : decode cX6_grows 58 = .ok (.aload_n 0, 1) := by decide +kernel
theorem dX6_grows_59 : decode cX6_grows 59 = .ok (.getfield 75, 3) := by decide +kernel
theorem dX6_grows_62 : decode cX6_grows 62 = .ok (.iload_n 2, 1) := by decide +kernel
theorem dX6_grows_63 : decode cX6_grows 63 = .ok (.bipush 10, 2) := by decide +kernel
theorem dX6_grows_65 : decode cX6_grows 65 = .ok (.iastore, 1) := by decide +kernel
theorem dX6_grows_66 : decode cX6_grows 66 = .ok (.aload_n 0, 1) := by decide +kernel
theorem dX6_grows_67 : decode cX6_grows 67 = .ok (.getfield 81, 3) := by decide +kernel
theorem dX6_grows_70 : decode cX6_grows 70 = .ok (.iload_n 1, 1) := by decide +kernel
theorem dX6_grows_71 : decode cX6_grows 71 = .ok (.iload_n 2, 1) := by decide +kernel
theorem dX6_grows_72 : decode cX6_grows 72 = .ok (.iastore, 1) := by decide +kernel
theorem dX6_grows_73 : decode cX6_grows 73 = .ok (.iinc 1 1, 3) := by decide +kernel
theorem dX6_grows_76 : decode cX6_grows 76 = .ok (.iinc 2 1, 3) := by decide +kernel
theorem dX6_grows_79 : decode cX6_grows 79 = .ok (.goto (-47), 3) := by decide +kernel
theorem dX6_grows_82 : decode cX6_grows 82 = .ok (.iconst 0, 1) := by decide +kernel
theorem dX6_grows_83 : decode cX6_grows 83 = .ok (.istore_n 2, 1) := by decide +kernel
theorem dX6_grows_84 : decode cX6_grows 84 = .ok (.iload_n 2, 1) := by decide +kernel
theorem dX6_grows_85 : decode cX6_grows 85 = .ok (.iload_n 1, 1) := by decide +kernel
theorem dX6_grows_86 : decode cX6_grows 86 = .ok (.if_icmp .ge 223, 3) := by decide +kernel
theorem dX6_grows_89 : decode cX6_grows 89 = .ok (.aload_n 0, 1) := by decide +kernel
theorem dX6_grows_90 : decode cX6_grows 90 = .ok (.getfield 81, 3) := by decide +kernel
theorem dX6_grows_93 : decode cX6_grows 93 = .ok (.iload_n 2, 1) := by decide +kernel
theorem dX6_grows_94 : decode cX6_grows 94 = .ok (.iaload, 1) := by decide +kernel
theorem dX6_grows_95 : decode cX6_grows 95 = .ok (.istore_n 3, 1) := by decide +kernel
theorem dX6_grows_96 : decode cX6_grows 96 = .ok (.iload_n 3, 1) := by decide +kernel
theorem dX6_grows_97 : decode cX6_grows 97 = .ok (.bipush 10, 2) := by decide +kernel
theorem dX6_grows_99 : decode cX6_grows 99 = .ok (.if_icmp .ge 114, 3) := by decide +kernel
theorem dX6_grows_102 : decode cX6_grows 102 = .ok (.iconst 0, 1) := by decide +kernel
theorem dX6_grows_103 : decode cX6_grows 103 = .ok (.istore 4, 2) := by decide +kernel
theorem dX6_grows_105 : decode cX6_grows 105 = .ok (.iload 4, 2) := by decide +kernel
theorem dX6_grows_107 : decode cX6_grows 107 = .ok (.aload_n 0, 1) := by decide +kernel
theorem dX6_grows_108 : decode cX6_grows 108 = .ok (.getfield 118, 3) := by decide +kernel
theorem dX6_grows_111 : decode cX6_grows 111 = .ok (.if_icmp .ge 99, 3) := by decide +kernel
theorem dX6_grows_114 : decode cX6_grows 114 = .ok (.aload_n 0, 1) := by decide +kernel
theorem dX6_grows_115 : decode cX6_grows 115 = .ok (.getfield 78, 3) := by decide +kernel
theorem dX6_grows_118 : decode cX6_grows 118 = .ok (.iload 4, 2) := by decide +kernel
theorem dX6_grows_120 : decode cX6_grows 120 = .ok (.iaload, 1) := by decide +kernel
theorem dX6_grows_121 : decode cX6_grows 121 = .ok (.iconst (-1), 1) := by decide +kernel
theorem dX6_grows_122 : decode cX6_grows 122 = .ok (.if_icmp .ne 82, 3) := by decide +kernel
theorem dX6_grows_125 : decode cX6_grows 125 = .ok (.aload_n 0, 1) := by decide +kernel
theorem dX6_grows_126 : decode cX6_grows 126 = .ok (.getfield 63, 3) := by decide +kernel
theorem dX6_grows_129 : decode cX6_grows 129 = .ok (.bipush 10, 2) := by decide +kernel
theorem dX6_grows_131 : decode cX6_grows 131 = .ok (.iload_n 3, 1) := by decide +kernel
theorem dX6_grows_132 : decode cX6_grows 132 = .ok (.imul, 1) := by decide +kernel
theorem dX6_grows_133 : decode cX6_grows 133 = .ok (.iload 4, 2) := by decide +kernel
theorem dX6_grows_135 : decode cX6_grows 135 = .ok (.iadd, 1) := by decide +kernel
theorem dX6_grows_136 : decode cX6_grows 136 = .ok (.baload, 1) := by decide +kernel
theorem dX6_grows_137 : decode cX6_grows 137 = .ok (.ifCond .eq 67, 3) := by decide +kernel
theorem dX6_grows_140 : decode cX6_grows 140 = .ok (.aload_n 0, 1) := by decide +kernel
theorem dX6_grows_141 : decode cX6_grows 141 = .ok (.getfield 66, 3) := by decide +kernel
theorem dX6_grows_144 : decode cX6_grows 144 = .ok (.bipush 10, 2) := by decide +kernel
theorem dX6_grows_146 : decode cX6_grows 146 = .ok (.iload_n 3, 1) := by decide +kernel
theorem dX6_grows_147 : decode cX6_grows 147 = .ok (.imul, 1) := by decide +kernel
theorem dX6_grows_148 : decode cX6_grows 148 = .ok (.iload 4, 2) := by decide +kernel
theorem dX6_grows_150 : decode cX6_grows 150 = .ok (.iadd, 1) := by decide +kernel
theorem dX6_grows_151 : decode cX6_grows 151 = .ok (.baload, 1) := by decide +kernel
theorem dX6_grows_152 : decode cX6_grows 152 = .ok (.ifCond .eq 6, 3) := by decide +kernel
theorem dX6_grows_155 : decode cX6_grows 155 = .ok (.goto 49, 3) := by decide +kernel
theorem dX6_grows_158 : decode cX6_grows 158 = .ok (.aload_n 0, 1) := by decide +kernel
theorem dX6_grows_159 : decode cX6_grows 159 = .ok (.getfield 78, 3) := by decide +kernel
theorem dX6_grows_162 : decode cX6_grows 162 = .ok (.iload 4, 2) := by decide +kernel
theorem dX6_grows_164 : decode cX6_grows 164 = .ok (.iload_n 3, 1) := by decide +kernel
theorem dX6_grows_165 : decode cX6_grows 165 = .ok (.iastore, 1) := by decide +kernel
theorem dX6_grows_166 : decode cX6_grows 166 = .ok (.aload_n 0, 1) := by decide +kernel
theorem dX6_grows_167 : decode cX6_grows 167 = .ok (.getfield 72, 3) := by decide +kernel
theorem dX6_grows_170 : decode cX6_grows 170 = .ok (.iload 4, 2) := by decide +kernel
theorem dX6_grows_172 : decode cX6_grows 172 = .ok (.iaload, 1) := by decide +kernel
theorem dX6_grows_173 : decode cX6_grows 173 = .ok (.aload_n 0, 1) := by decide +kernel
theorem dX6_grows_174 : decode cX6_grows 174 = .ok (.getfield 13, 3) := by decide +kernel
theorem dX6_grows_177 : decode cX6_grows 177 = .ok (.iconst 0, 1) := by decide +kernel
theorem dX6_grows_178 : decode cX6_grows 178 = .ok (.iaload, 1) := by decide +kernel
theorem dX6_grows_179 : decode cX6_grows 179 = .ok (.if_icmp .ge 11, 3) := by decide +kernel
theorem dX6_grows_182 : decode cX6_grows 182 = .ok (.aload_n 0, 1) := by decide +kernel
theorem dX6_grows_183 : decode cX6_grows 183 = .ok (.iload 4, 2) := by decide +kernel
theorem dX6_grows_185 : decode cX6_grows 185 = .ok (.invokevirtual 128, 3) := by decide +kernel
theorem dX6_grows_188 : decode cX6_grows 188 = .ok (.iconst 1, 1) := by decide +kernel
theorem dX6_grows_189 : decode cX6_grows 189 = .ok (.ireturn, 1) := by decide +kernel
theorem dX6_grows_190 : decode cX6_grows 190 = .ok (.aload_n 0, 1) := by decide +kernel
theorem dX6_grows_191 : decode cX6_grows 191 = .ok (.getfield 81, 3) := by decide +kernel
theorem dX6_grows_194 : decode cX6_grows 194 = .ok (.iload_n 1, 1) := by decide +kernel
theorem dX6_grows_195 : decode cX6_grows 195 = .ok (.bipush 10, 2) := by decide +kernel
theorem dX6_grows_197 : decode cX6_grows 197 = .ok (.iload 4, 2) := by decide +kernel
theorem dX6_grows_199 : decode cX6_grows 199 = .ok (.iadd, 1) := by decide +kernel
theorem dX6_grows_200 : decode cX6_grows 200 = .ok (.iastore, 1) := by decide +kernel
theorem dX6_grows_201 : decode cX6_grows 201 = .ok (.iinc 1 1, 3) := by decide +kernel
theorem dX6_grows_204 : decode cX6_grows 204 = .ok (.iinc 4 1, 3) := by decide +kernel
theorem dX6_grows_207 : decode cX6_grows 207 = .ok (.goto (-102), 3) := by decide +kernel
theorem dX6_grows_210 : decode cX6_grows 210 = .ok (.goto 93, 3) := by decide +kernel
theorem dX6_grows_213 : decode cX6_grows 213 = .ok (.iload_n 3, 1) := by decide +kernel
theorem dX6_grows_214 : decode cX6_grows 214 = .ok (.bipush 10, 2) := by decide +kernel
theorem dX6_grows_216 : decode cX6_grows 216 = .ok (.isub, 1) := by decide +kernel
theorem dX6_grows_217 : decode cX6_grows 217 = .ok (.istore 4, 2) := by decide +kernel
theorem dX6_grows_219 : decode cX6_grows 219 = .ok (.iconst 0, 1) := by decide +kernel
theorem dX6_grows_220 : decode cX6_grows 220 = .ok (.istore 5, 2) := by decide +kernel
theorem dX6_grows_222 : decode cX6_grows 222 = .ok (.iload 5, 2) := by decide +kernel
theorem dX6_grows_224 : decode cX6_grows 224 = .ok (.aload_n 0, 1) := by decide +kernel
theorem dX6_grows_225 : decode cX6_grows 225 = .ok (.getfield 118, 3) := by decide +kernel
theorem dX6_grows_228 : decode cX6_grows 228 = .ok (.if_icmp .ge 75, 3) := by decide +kernel
theorem dX6_grows_231 : decode cX6_grows 231 = .ok (.aload_n 0, 1) := by decide +kernel
theorem dX6_grows_232 : decode cX6_grows 232 = .ok (.getfield 75, 3) := by decide +kernel
theorem dX6_grows_235 : decode cX6_grows 235 = .ok (.iload 5, 2) := by decide +kernel
theorem dX6_grows_237 : decode cX6_grows 237 = .ok (.iaload, 1) := by decide +kernel
theorem dX6_grows_238 : decode cX6_grows 238 = .ok (.iconst (-1), 1) := by decide +kernel
theorem dX6_grows_239 : decode cX6_grows 239 = .ok (.if_icmp .ne 58, 3) := by decide +kernel
theorem dX6_grows_242 : decode cX6_grows 242 = .ok (.aload_n 0, 1) := by decide +kernel
theorem dX6_grows_243 : decode cX6_grows 243 = .ok (.getfield 63, 3) := by decide +kernel
theorem dX6_grows_246 : decode cX6_grows 246 = .ok (.bipush 10, 2) := by decide +kernel
theorem dX6_grows_248 : decode cX6_grows 248 = .ok (.iload 5, 2) := by decide +kernel
theorem dX6_grows_250 : decode cX6_grows 250 = .ok (.imul, 1) := by decide +kernel
theorem dX6_grows_251 : decode cX6_grows 251 = .ok (.iload 4, 2) := by decide +kernel
theorem dX6_grows_253 : decode cX6_grows 253 = .ok (.iadd, 1) := by decide +kernel
theorem dX6_grows_254 : decode cX6_grows 254 = .ok (.baload, 1) := by decide +kernel
theorem dX6_grows_255 : decode cX6_grows 255 = .ok (.ifCond .eq 42, 3) := by decide +kernel
theorem dX6_grows_258 : decode cX6_grows 258 = .ok (.aload_n 0, 1) := by decide +kernel
theorem dX6_grows_259 : decode cX6_grows 259 = .ok (.getfield 66, 3) := by decide +kernel
theorem dX6_grows_262 : decode cX6_grows 262 = .ok (.bipush 10, 2) := by decide +kernel
theorem dX6_grows_264 : decode cX6_grows 264 = .ok (.iload 5, 2) := by decide +kernel
theorem dX6_grows_266 : decode cX6_grows 266 = .ok (.imul, 1) := by decide +kernel
theorem dX6_grows_267 : decode cX6_grows 267 = .ok (.iload 4, 2) := by decide +kernel
theorem dX6_grows_269 : decode cX6_grows 269 = .ok (.iadd, 1) := by decide +kernel
theorem dX6_grows_270 : decode cX6_grows 270 = .ok (.baload, 1) := by decide +kernel
theorem dX6_grows_271 : decode cX6_grows 271 = .ok (.ifCond .ne 6, 3) := by decide +kernel
theorem dX6_grows_274 : decode cX6_grows 274 = .ok (.goto 23, 3) := by decide +kernel
theorem dX6_grows_277 : decode cX6_grows 277 = .ok (.aload_n 0, 1) := by decide +kernel
theorem dX6_grows_278 : decode cX6_grows 278 = .ok (.getfield 75, 3) := by decide +kernel
theorem dX6_grows_281 : decode cX6_grows 281 = .ok (.iload 5, 2) := by decide +kernel
theorem dX6_grows_283 : decode cX6_grows 283 = .ok (.iload 4, 2) := by decide +kernel
theorem dX6_grows_285 : decode cX6_grows 285 = .ok (.iastore, 1) := by decide +kernel
theorem dX6_grows_286 : decode cX6_grows 286 = .ok (.aload_n 0, 1) := by decide +kernel
theorem dX6_grows_287 : decode cX6_grows 287 = .ok (.getfield 81, 3) := by decide +kernel
theorem dX6_grows_290 : decode cX6_grows 290 = .ok (.iload_n 1, 1) := by decide +kernel
theorem dX6_grows_291 : decode cX6_grows 291 = .ok (.iload 5, 2) := by decide +kernel
theorem dX6_grows_293 : decode cX6_grows 293 = .ok (.iastore, 1) := by decide +kernel
theorem dX6_grows_294 : decode cX6_grows 294 = .ok (.iinc 1 1, 3) := by decide +kernel
theorem dX6_grows_297 : decode cX6_grows 297 = .ok (.iinc 5 1, 3) := by decide +kernel
theorem dX6_grows_300 : decode cX6_grows 300 = .ok (.goto (-78), 3) := by decide +kernel
theorem dX6_grows_303 : decode cX6_grows 303 = .ok (.iinc 2 1, 3) := by decide +kernel
theorem dX6_grows_306 : decode cX6_grows 306 = .ok (.goto (-222), 3) := by decide +kernel
theorem dX6_grows_309 : decode cX6_grows 309 = .ok (.iconst 0, 1) := by decide +kernel
theorem dX6_grows_310 : decode cX6_grows 310 = .ok (.ireturn, 1) := by decide +kernel
theorem dX6_turns_0 : decode cX6_turns 0 = .ok (.aload_n 0, 1) := by decide +kernel
theorem dX6_turns_1 : decode cX6_turns 1 = .ok (.getfield 72, 3) := by decide +kernel
theorem dX6_turns_4 : decode cX6_turns 4 = .ok (.iload_n 1, 1) := by decide +kernel
theorem dX6_turns_5 : decode cX6_turns 5 = .ok (.dup2, 1) := by decide +kernel
theorem dX6_turns_6 : decode cX6_turns 6 = .ok (.iaload, 1) := by decide +kernel
theorem dX6_turns_7 : decode cX6_turns 7 = .ok (.iconst 1, 1) := by decide +kernel
theorem dX6_turns_8 : decode cX6_turns 8 = .ok (.iadd, 1) := by decide +kernel
theorem dX6_turns_9 : decode cX6_turns 9 = .ok (.iastore, 1) := by decide +kernel
theorem dX6_turns_10 : decode cX6_turns 10 = .ok (.iload_n 1, 1) := by decide +kernel
theorem dX6_turns_11 : decode cX6_turns 11 = .ok (.istore_n 2, 1) := by decide +kernel
theorem dX6_turns_12 : decode cX6_turns 12 = .ok (.aload_n 0, 1) := by decide +kernel
theorem dX6_turns_13 : decode cX6_turns 13 = .ok (.getfield 78, 3) := by decide +kernel
theorem dX6_turns_16 : decode cX6_turns 16 = .ok (.iload_n 2, 1) := by decide +kernel
theorem dX6_turns_17 : decode cX6_turns 17 = .ok (.iaload, 1) := by decide +kernel
theorem dX6_turns_18 : decode cX6_turns 18 = .ok (.istore_n 3, 1) := by decide +kernel
theorem dX6_turns_19 : decode cX6_turns 19 = .ok (.aload_n 0, 1) := by decide +kernel
theorem dX6_turns_20 : decode cX6_turns 20 = .ok (.getfield 75, 3) := by decide +kernel
theorem dX6_turns_23 : decode cX6_turns 23 = .ok (.iload_n 3, 1) := by decide +kernel
theorem dX6_turns_24 : decode cX6_turns 24 = .ok (.iaload, 1) := by decide +kernel
theorem dX6_turns_25 : decode cX6_turns 25 = .ok (.bipush 10, 2) := by decide +kernel
theorem dX6_turns_27 : decode cX6_turns 27 = .ok (.if_icmp .eq 44, 3) := by decide +kernel
theorem dX6_turns_30 : decode cX6_turns 30 = .ok (.aload_n 0, 1) := by decide +kernel
theorem dX6_turns_31 : decode cX6_turns 31 = .ok (.getfield 66, 3) := by decide +kernel
theorem dX6_turns_34 : decode cX6_turns 34 = .ok (.bipush 10, 2) := by decide +kernel
theorem dX6_turns_36 : decode cX6_turns 36 = .ok (.iload_n 3, 1) := by decide +kernel
theorem dX6_turns_37 : decode cX6_turns 37 = .ok (.imul, 1) := by decide +kernel
theorem dX6_turns_38 : decode cX6_turns 38 = .ok (.iload_n 2, 1) := by decide +kernel
theorem dX6_turns_39 : decode cX6_turns 39 = .ok (.iadd, 1) := by decide +kernel
theorem dX6_turns_40 : decode cX6_turns 40 = .ok (.iconst 1, 1) := by decide +kernel
theorem dX6_turns_41 : decode cX6_turns 41 = .ok (.bastore, 1) := by decide +kernel
theorem dX6_turns_42 : decode cX6_turns 42 = .ok (.aload_n 0, 1) := by decide +kernel
theorem dX6_turns_43 : decode cX6_turns 43 = .ok (.getfield 75, 3) := by decide +kernel
theorem dX6_turns_46 : decode cX6_turns 46 = .ok (.iload_n 3, 1) := by decide +kernel
theorem dX6_turns_47 : decode cX6_turns 47 = .ok (.iaload, 1) := by decide +kernel
theorem dX6_turns_48 : decode cX6_turns 48 = .ok (.istore_n 2, 1) := by decide +kernel
theorem dX6_turns_49 : decode cX6_turns 49 = .ok (.aload_n 0, 1) := by decide +kernel
theorem dX6_turns_50 : decode cX6_turns 50 = .ok (.getfield 66, 3) := by decide +kernel
theorem dX6_turns_53 : decode cX6_turns 53 = .ok (.bipush 10, 2) := by decide +kernel
theorem dX6_turns_55 : decode cX6_turns 55 = .ok (.iload_n 3, 1) := by decide +kernel
theorem dX6_turns_56 : decode cX6_turns 56 = .ok (.imul, 1) := by decide +kernel
theorem dX6_turns_57 : decode cX6_turns 57 = .ok (.iload_n 2, 1) := by decide +kernel
theorem dX6_turns_58 : decode cX6_turns 58 = .ok (.iadd, 1) := by decide +kernel
theorem dX6_turns_59 : decode cX6_turns 59 = .ok (.iconst 0, 1) := by decide +kernel
theorem dX6_turns_60 : decode cX6_turns 60 = .ok (.bastore, 1) := by decide +kernel
theorem dX6_turns_61 : decode cX6_turns 61 = .ok (.aload_n 0, 1) := by decide +kernel
theorem dX6_turns_62 : decode cX6_turns 62 = .ok (.getfield 78, 3) := by decide +kernel
theorem dX6_turns_65 : decode cX6_turns 65 = .ok (.iload_n 2, 1) := by decide +kernel
theorem dX6_turns_66 : decode cX6_turns 66 = .ok (.iaload, 1) := by decide +kernel
theorem dX6_turns_67 : decode cX6_turns 67 = .ok (.istore_n 3, 1) := by decide +kernel
theorem dX6_turns_68 : decode cX6_turns 68 = .ok (.goto (-49), 3) := by decide +kernel
theorem dX6_turns_71 : decode cX6_turns 71 = .ok (.aload_n 0, 1) := by decide +kernel
theorem dX6_turns_72 : decode cX6_turns 72 = .ok (.getfield 66, 3) := by decide +kernel
theorem dX6_turns_75 : decode cX6_turns 75 = .ok (.bipush 10, 2) := by decide +kernel
theorem dX6_turns_77 : decode cX6_turns 77 = .ok (.iload_n 3, 1) := by decide +kernel
theorem dX6_turns_78 : decode cX6_turns 78 = .ok (.imul, 1) := by decide +kernel
theorem dX6_turns_79 : decode cX6_turns 79 = .ok (.iload_n 2, 1) := by decide +kernel
theorem dX6_turns_80 : decode cX6_turns 80 = .ok (.iadd, 1) := by decide +kernel
theorem dX6_turns_81 : decode cX6_turns 81 = .ok (.iconst 1, 1) := by decide +kernel
theorem dX6_turns_82 : decode cX6_turns 82 = .ok (.bastore, 1) := by decide +kernel
theorem dX6_turns_83 : decode cX6_turns 83 = .ok (.aload_n 0, 1) := by decide +kernel
theorem dX6_turns_84 : decode cX6_turns 84 = .ok (.getfield 69, 3) := by decide +kernel
theorem dX6_turns_87 : decode cX6_turns 87 = .ok (.iload_n 3, 1) := by decide +kernel
theorem dX6_turns_88 : decode cX6_turns 88 = .ok (.dup2, 1) := by decide +kernel
theorem dX6_turns_89 : decode cX6_turns 89 = .ok (.iaload, 1) := by decide +kernel
theorem dX6_turns_90 : decode cX6_turns 90 = .ok (.iconst 1, 1) := by decide +kernel
theorem dX6_turns_91 : decode cX6_turns 91 = .ok (.iadd, 1) := by decide +kernel
theorem dX6_turns_92 : decode cX6_turns 92 = .ok (.iastore, 1) := by decide +kernel
theorem dX6_turns_93 : decode cX6_turns 93 = .ok (.return_, 1) := by decide +kernel
set_option maxRecDepth 20000 in
theorem ggX6_most_X6_grows : GoodIn wsX6_most wsX6_grows := goodIn_r _ [10, 11, 12, 13, 1, 5, 14, 15, 3, 2, 16, 17, 18, 9, 19, 20, 21, 22, 23, 24, 25, 26, 27, 28, 29, 30, 31, 32, 33, 34, 35, 36, 37, 38, 39, 40, 41, 42, 43, 44, 45, 46, 47, 48] (by decide +kernel) (by decide +kernel)
set_option maxRecDepth 20000 in
theorem gX6_most_X6_grows : GoodIn wsX6_most (wsV RX6 131 RX6 yX6_grows wsX6_grows) := goodIn_app (goodIn_of _ (by decide +kernel)) ggX6_most_X6_grows
theorem dX6_most_0 : decode cX6_most 0 = .ok (.iconst 0, 1) := by decide +kernel
theorem dX6_most_1 : decode cX6_most 1 = .ok (.istore_n 1, 1) := by decide +kernel
theorem dX6_most_2 : decode cX6_most 2 = .ok (.iconst 0, 1) := by decide +kernel
theorem dX6_most_3 : decode cX6_most 3 = .ok (.istore_n 2, 1) := by decide +kernel
theorem dX6_most_4 : decode cX6_most 4 = .ok (.iload_n 2, 1) := by decide +kernel
theorem dX6_most_5 : decode cX6_most 5 = .ok (.bipush 10, 2) := by decide +kernel
theorem dX6_most_7 : decode cX6_most 7 = .ok (.if_icmp .ge 23, 3) := by decide +kernel
theorem dX6_most_10 : decode cX6_most 10 = .ok (.aload_n 0, 1) := by decide +kernel
theorem dX6_most_11 : decode cX6_most 11 = .ok (.getfield 69, 3) := by decide +kernel
theorem dX6_most_14 : decode cX6_most 14 = .ok (.iload_n 2, 1) := by decide +kernel
theorem dX6_most_15 : decode cX6_most 15 = .ok (.iconst 0, 1) := by decide +kernel
theorem dX6_most_16 : decode cX6_most 16 = .ok (.iastore, 1) := by decide +kernel
theorem dX6_most_17 : decode cX6_most 17 = .ok (.aload_n 0, 1) := by decide +kernel
theorem dX6_most_18 : decode cX6_most 18 = .ok (.getfield 72, 3) := by decide +kernel
theorem dX6_most_21 : decode cX6_most 21 = .ok (.iload_n 2, 1) := by decide +kernel
theorem dX6_most_22 : decode cX6_most 22 = .ok (.iconst 0, 1) := by decide +kernel
theorem dX6_most_23 : decode cX6_most 23 = .ok (.iastore, 1) := by decide +kernel
theorem dX6_most_24 : decode cX6_most 24 = .ok (.iinc 2 1, 3) := by decide +kernel
theorem dX6_most_27 : decode cX6_most 27 = .ok (.goto (-23), 3) := by decide +kernel
theorem dX6_most_30 : decode cX6_most 30 = .ok (.iconst 0, 1) := by decide +kernel
theorem dX6_most_31 : decode cX6_most 31 = .ok (.istore_n 2, 1) := by decide +kernel
theorem dX6_most_32 : decode cX6_most 32 = .ok (.iload_n 2, 1) := by decide +kernel
theorem dX6_most_33 : decode cX6_most 33 = .ok (.bipush 100, 2) := by decide +kernel
theorem dX6_most_35 : decode cX6_most 35 = .ok (.if_icmp .ge 57, 3) := by decide +kernel
theorem dX6_most_38 : decode cX6_most 38 = .ok (.aload_n 0, 1) := by decide +kernel
theorem dX6_most_39 : decode cX6_most 39 = .ok (.getfield 66, 3) := by decide +kernel
theorem dX6_most_42 : decode cX6_most 42 = .ok (.iload_n 2, 1) := by decide +kernel
theorem dX6_most_43 : decode cX6_most 43 = .ok (.iconst 0, 1) := by decide +kernel
theorem dX6_most_44 : decode cX6_most 44 = .ok (.bastore, 1) := by decide +kernel
theorem dX6_most_45 : decode cX6_most 45 = .ok (.aload_n 0, 1) := by decide +kernel
theorem dX6_most_46 : decode cX6_most 46 = .ok (.getfield 60, 3) := by decide +kernel
theorem dX6_most_49 : decode cX6_most 49 = .ok (.iload_n 2, 1) := by decide +kernel
theorem dX6_most_50 : decode cX6_most 50 = .ok (.baload, 1) := by decide +kernel
theorem dX6_most_51 : decode cX6_most 51 = .ok (.ifCond .ne 6, 3) := by decide +kernel
theorem dX6_most_54 : decode cX6_most 54 = .ok (.goto 32, 3) := by decide +kernel
theorem dX6_most_57 : decode cX6_most 57 = .ok (.aload_n 0, 1) := by decide +kernel
theorem dX6_most_58 : decode cX6_most 58 = .ok (.getfield 69, 3) := by decide +kernel
theorem dX6_most_61 : decode cX6_most 61 = .ok (.iload_n 2, 1) := by decide +kernel
theorem dX6_most_62 : decode cX6_most 62 = .ok (.bipush 10, 2) := by decide +kernel
theorem dX6_most_64 : decode cX6_most 64 = .ok (.idiv, 1) := by decide +kernel
theorem dX6_most_65 : decode cX6_most 65 = .ok (.dup2, 1) := by decide +kernel
theorem dX6_most_66 : decode cX6_most 66 = .ok (.iaload, 1) := by decide +kernel
theorem dX6_most_67 : decode cX6_most 67 = .ok (.iconst 1, 1) := by decide +kernel
theorem dX6_most_68 : decode cX6_most 68 = .ok (.iadd, 1) := by decide +kernel
theorem dX6_most_69 : decode cX6_most 69 = .ok (.iastore, 1) := by decide +kernel
theorem dX6_most_70 : decode cX6_most 70 = .ok (.aload_n 0, 1) := by decide +kernel
theorem dX6_most_71 : decode cX6_most 71 = .ok (.getfield 72, 3) := by decide +kernel
theorem dX6_most_74 : decode cX6_most 74 = .ok (.iload_n 2, 1) := by decide +kernel
theorem dX6_most_75 : decode cX6_most 75 = .ok (.bipush 10, 2) := by decide +kernel
theorem dX6_most_77 : decode cX6_most 77 = .ok (.irem, 1) := by decide +kernel
theorem dX6_most_78 : decode cX6_most 78 = .ok (.dup2, 1) := by decide +kernel
theorem dX6_most_79 : decode cX6_most 79 = .ok (.iaload, 1) := by decide +kernel
theorem dX6_most_80 : decode cX6_most 80 = .ok (.iconst 1, 1) := by decide +kernel
theorem dX6_most_81 : decode cX6_most 81 = .ok (.iadd, 1) := by decide +kernel
theorem dX6_most_82 : decode cX6_most 82 = .ok (.iastore, 1) := by decide +kernel
theorem dX6_most_83 : decode cX6_most 83 = .ok (.iinc 1 1, 3) := by decide +kernel
theorem dX6_most_86 : decode cX6_most 86 = .ok (.iinc 2 1, 3) := by decide +kernel
theorem dX6_most_89 : decode cX6_most 89 = .ok (.goto (-57), 3) := by decide +kernel
theorem dX6_most_92 : decode cX6_most 92 = .ok (.iconst 0, 1) := by decide +kernel
theorem dX6_most_93 : decode cX6_most 93 = .ok (.istore_n 2, 1) := by decide +kernel
theorem dX6_most_94 : decode cX6_most 94 = .ok (.iload_n 2, 1) := by decide +kernel
theorem dX6_most_95 : decode cX6_most 95 = .ok (.bipush 10, 2) := by decide +kernel
theorem dX6_most_97 : decode cX6_most 97 = .ok (.if_icmp .ge 41, 3) := by decide +kernel
theorem dX6_most_100 : decode cX6_most 100 = .ok (.aload_n 0, 1) := by decide +kernel
theorem dX6_most_101 : decode cX6_most 101 = .ok (.getfield 69, 3) := by decide +kernel
theorem dX6_most_104 : decode cX6_most 104 = .ok (.iload_n 2, 1) := by decide +kernel
theorem dX6_most_105 : decode cX6_most 105 = .ok (.iaload, 1) := by decide +kernel
theorem dX6_most_106 : decode cX6_most 106 = .ok (.aload_n 0, 1) := by decide +kernel
theorem dX6_most_107 : decode cX6_most 107 = .ok (.getfield 13, 3) := by decide +kernel
theorem dX6_most_110 : decode cX6_most 110 = .ok (.iconst 1, 1) := by decide +kernel
theorem dX6_most_111 : decode cX6_most 111 = .ok (.iaload, 1) := by decide +kernel
theorem dX6_most_112 : decode cX6_most 112 = .ok (.if_icmp .gt 18, 3) := by decide +kernel
theorem dX6_most_115 : decode cX6_most 115 = .ok (.aload_n 0, 1) := by decide +kernel
theorem dX6_most_116 : decode cX6_most 116 = .ok (.getfield 72, 3) := by decide +kernel
theorem dX6_most_119 : decode cX6_most 119 = .ok (.iload_n 2, 1) := by decide +kernel
theorem dX6_most_120 : decode cX6_most 120 = .ok (.iaload, 1) := by decide +kernel
theorem dX6_most_121 : decode cX6_most 121 = .ok (.aload_n 0, 1) := by decide +kernel
theorem dX6_most_122 : decode cX6_most 122 = .ok (.getfield 13, 3) := by decide +kernel
theorem dX6_most_125 : decode cX6_most 125 = .ok (.iconst 0, 1) := by decide +kernel
theorem dX6_most_126 : decode cX6_most 126 = .ok (.iaload, 1) := by decide +kernel
theorem dX6_most_127 : decode cX6_most 127 = .ok (.if_icmp .le 5, 3) := by decide +kernel
theorem dX6_most_130 : decode cX6_most 130 = .ok (.iconst (-1), 1) := by decide +kernel
theorem dX6_most_131 : decode cX6_most 131 = .ok (.ireturn, 1) := by decide +kernel
theorem dX6_most_132 : decode cX6_most 132 = .ok (.iinc 2 1, 3) := by decide +kernel
theorem dX6_most_135 : decode cX6_most 135 = .ok (.goto (-41), 3) := by decide +kernel
theorem dX6_most_138 : decode cX6_most 138 = .ok (.aload_n 0, 1) := by decide +kernel
theorem dX6_most_139 : decode cX6_most 139 = .ok (.invokevirtual 131, 3) := by decide +kernel
theorem dX6_most_142 : decode cX6_most 142 = .ok (.ifCond .eq 9, 3) := by decide +kernel
theorem dX6_most_145 : decode cX6_most 145 = .ok (.iinc 1 1, 3) := by decide +kernel
theorem dX6_most_148 : decode cX6_most 148 = .ok (.goto (-10), 3) := by decide +kernel
theorem dX6_most_151 : decode cX6_most 151 = .ok (.iload_n 1, 1) := by decide +kernel
theorem dX6_most_152 : decode cX6_most 152 = .ok (.ireturn, 1) := by decide +kernel
set_option maxRecDepth 20000 in
theorem ggX6_lay_X6_isBarred : GoodIn wsX6_lay wsX6_isBarred := goodIn_r _ [11, 12, 13, 14, 34, 35, 36, 37, 38, 39, 40, 41, 42, 43, 44, 45, 46, 47, 48, 49, 50, 51, 52, 53, 54, 55, 56, 57, 58, 59, 60, 61, 62] (by decide +kernel) (by decide +kernel)
set_option maxRecDepth 20000 in
theorem gX6_lay_X6_isBarred : GoodIn wsX6_lay (wsV RX6 125 RX6 yX6_isBarred wsX6_isBarred) := goodIn_app (goodIn_of _ (by decide +kernel)) ggX6_lay_X6_isBarred
set_option maxRecDepth 20000 in
theorem ggX6_lay_X6_most : GoodIn wsX6_lay wsX6_most := goodIn_r _ [18, 19, 20, 21, 2, 22, 23, 24, 25, 10, 26, 27, 28, 4, 29, 3, 30, 31, 32, 33, 34, 35, 36, 37, 38, 39, 40, 41, 42, 43, 44, 45, 46, 47, 48, 49, 50, 51, 52, 53, 54, 55, 56, 57, 58, 59, 60, 61, 62] (by decide +kernel) (by decide +kernel)
set_option maxRecDepth 20000 in
theorem gX6_lay_X6_most : GoodIn wsX6_lay (wsV RX6 139 RX6 yX6_most wsX6_most) := goodIn_app (goodIn_of _ (by decide +kernel)) ggX6_lay_X6_most
theorem dX6_lay_0 : decode cX6_lay 0 = .ok (.aload_n 0, 1) := by decide +kernel
theorem dX6_lay_1 : decode cX6_lay 1 = .ok (.getfield 135, 3) := by decide +kernel
theorem dX6_lay_4 : decode cX6_lay 4 = .ok (.ifCond .eq 5, 3) := by decide +kernel
theorem dX6_lay_7 : decode cX6_lay 7 = .ok (.iconst (-1), 1) := by decide +kernel
theorem dX6_lay_8 : decode cX6_lay 8 = .ok (.ireturn, 1) := by decide +kernel
theorem dX6_lay_9 : decode cX6_lay 9 = .ok (.iconst 0, 1) := by decide +kernel
theorem dX6_lay_10 : decode cX6_lay 10 = .ok (.istore_n 1, 1) := by decide +kernel
theorem dX6_lay_11 : decode cX6_lay 11 = .ok (.iload_n 1, 1) := by decide +kernel
theorem dX6_lay_12 : decode cX6_lay 12 = .ok (.bipush 100, 2) := by decide +kernel
theorem dX6_lay_14 : decode cX6_lay 14 = .ok (.if_icmp .ge 64, 3) := by decide +kernel
theorem dX6_lay_17 : decode cX6_lay 17 = .ok (.aload_n 0, 1) := by decide +kernel
theorem dX6_lay_18 : decode cX6_lay 18 = .ok (.getfield 60, 3) := by decide +kernel
theorem dX6_lay_21 : decode cX6_lay 21 = .ok (.iload_n 1, 1) := by decide +kernel
theorem dX6_lay_22 : decode cX6_lay 22 = .ok (.iconst 0, 1) := by decide +kernel
theorem dX6_lay_23 : decode cX6_lay 23 = .ok (.bastore, 1) := by decide +kernel
theorem dX6_lay_24 : decode cX6_lay 24 = .ok (.aload_n 0, 1) := by decide +kernel
theorem dX6_lay_25 : decode cX6_lay 25 = .ok (.getfield 63, 3) := by decide +kernel
theorem dX6_lay_28 : decode cX6_lay 28 = .ok (.iload_n 1, 1) := by decide +kernel
theorem dX6_lay_29 : decode cX6_lay 29 = .ok (.iload_n 1, 1) := by decide +kernel
theorem dX6_lay_30 : decode cX6_lay 30 = .ok (.bipush 10, 2) := by decide +kernel
theorem dX6_lay_32 : decode cX6_lay 32 = .ok (.idiv, 1) := by decide +kernel
theorem dX6_lay_33 : decode cX6_lay 33 = .ok (.aload_n 0, 1) := by decide +kernel
theorem dX6_lay_34 : decode cX6_lay 34 = .ok (.getfield 118, 3) := by decide +kernel
theorem dX6_lay_37 : decode cX6_lay 37 = .ok (.if_icmp .ge 33, 3) := by decide +kernel
theorem dX6_lay_40 : decode cX6_lay 40 = .ok (.iload_n 1, 1) := by decide +kernel
theorem dX6_lay_41 : decode cX6_lay 41 = .ok (.bipush 10, 2) := by decide +kernel
theorem dX6_lay_43 : decode cX6_lay 43 = .ok (.irem, 1) := by decide +kernel
theorem dX6_lay_44 : decode cX6_lay 44 = .ok (.aload_n 0, 1) := by decide +kernel
theorem dX6_lay_45 : decode cX6_lay 45 = .ok (.getfield 118, 3) := by decide +kernel
theorem dX6_lay_48 : decode cX6_lay 48 = .ok (.if_icmp .ge 22, 3) := by decide +kernel
theorem dX6_lay_51 : decode cX6_lay 51 = .ok (.aload_n 0, 1) := by decide +kernel
theorem dX6_lay_52 : decode cX6_lay 52 = .ok (.iload_n 1, 1) := by decide +kernel
theorem dX6_lay_53 : decode cX6_lay 53 = .ok (.bipush 10, 2) := by decide +kernel
theorem dX6_lay_55 : decode cX6_lay 55 = .ok (.idiv, 1) := by decide +kernel
theorem dX6_lay_56 : decode cX6_lay 56 = .ok (.iload_n 1, 1) := by decide +kernel
theorem dX6_lay_57 : decode cX6_lay 57 = .ok (.bipush 10, 2) := by decide +kernel
theorem dX6_lay_59 : decode cX6_lay 59 = .ok (.irem, 1) := by decide +kernel
theorem dX6_lay_60 : decode cX6_lay 60 = .ok (.invokevirtual 125, 3) := by decide +kernel
theorem dX6_lay_63 : decode cX6_lay 63 = .ok (.ifCond .ne 7, 3) := by decide +kernel
theorem dX6_lay_66 : decode cX6_lay 66 = .ok (.iconst 1, 1) := by decide +kernel
theorem dX6_lay_67 : decode cX6_lay 67 = .ok (.goto 4, 3) := by decide +kernel
theorem dX6_lay_70 : decode cX6_lay 70 = .ok (.iconst 0, 1) := by decide +kernel
theorem dX6_lay_71 : decode cX6_lay 71 = .ok (.bastore, 1) := by decide +kernel
theorem dX6_lay_72 : decode cX6_lay 72 = .ok (.iinc 1 1, 3) := by decide +kernel
theorem dX6_lay_75 : decode cX6_lay 75 = .ok (.goto (-64), 3) := by decide +kernel
theorem dX6_lay_78 : decode cX6_lay 78 = .ok (.aload_n 0, 1) := by decide +kernel
theorem dX6_lay_79 : decode cX6_lay 79 = .ok (.invokevirtual 139, 3) := by decide +kernel
theorem dX6_lay_82 : decode cX6_lay 82 = .ok (.istore_n 1, 1) := by decide +kernel
theorem dX6_lay_83 : decode cX6_lay 83 = .ok (.iconst 0, 1) := by decide +kernel
theorem dX6_lay_84 : decode cX6_lay 84 = .ok (.istore_n 2, 1) := by decide +kernel
theorem dX6_lay_85 : decode cX6_lay 85 = .ok (.iload_n 2, 1) := by decide +kernel
theorem dX6_lay_86 : decode cX6_lay 86 = .ok (.aload_n 0, 1) := by decide +kernel
theorem dX6_lay_87 : decode cX6_lay 87 = .ok (.getfield 118, 3) := by decide +kernel
theorem dX6_lay_90 : decode cX6_lay 90 = .ok (.if_icmp .ge 82, 3) := by decide +kernel
theorem dX6_lay_93 : decode cX6_lay 93 = .ok (.iconst 0, 1) := by decide +kernel
end
section
theorem dX6_lay_94 : decode cX6_lay 94 = .ok (.istore_n 3, 1) := by decide +kernel
theorem dX6_lay_95 : decode cX6_lay 95 = .ok (.iload_n 3, 1) := by decide +kernel
theorem dX6_lay_96 : decode cX6_lay 96 = .ok (.aload_n 0, 1) := by decide +kernel
theorem dX6_lay_97 : decode cX6_lay 97 = .ok (.getfield 118, 3) := by decide +kernel
theorem dX6_lay_100 : decode cX6_lay 100 = .ok (.if_icmp .ge 66, 3) := by decide +kernel
theorem dX6_lay_103 : decode cX6_lay 103 = .ok (.bipush 10, 2) := by decide +kernel
theorem dX6_lay_105 : decode cX6_lay 105 = .ok (.iload_n 3, 1) := by decide +kernel
theorem dX6_lay_106 : decode cX6_lay 106 = .ok (.imul, 1) := by decide +kernel
theorem dX6_lay_107 : decode cX6_lay 107 = .ok (.iload_n 2, 1) := by decide +kernel
theorem dX6_lay_108 : decode cX6_lay 108 = .ok (.iadd, 1) := by decide +kernel
theorem dX6_lay_109 : decode cX6_lay 109 = .ok (.istore 4, 2) := by decide +kernel
theorem dX6_lay_111 : decode cX6_lay 111 = .ok (.aload_n 0, 1) := by decide +kernel
theorem dX6_lay_112 : decode cX6_lay 112 = .ok (.getfield 63, 3) := by decide +kernel
theorem dX6_lay_115 : decode cX6_lay 115 = .ok (.iload 4, 2) := by decide +kernel
theorem dX6_lay_117 : decode cX6_lay 117 = .ok (.baload, 1) := by decide +kernel
theorem dX6_lay_118 : decode cX6_lay 118 = .ok (.ifCond .ne 6, 3) := by decide +kernel
theorem dX6_lay_121 : decode cX6_lay 121 = .ok (.goto 39, 3) := by decide +kernel
theorem dX6_lay_124 : decode cX6_lay 124 = .ok (.aload_n 0, 1) := by decide +kernel
theorem dX6_lay_125 : decode cX6_lay 125 = .ok (.getfield 63, 3) := by decide +kernel
theorem dX6_lay_128 : decode cX6_lay 128 = .ok (.iload 4, 2) := by decide +kernel
theorem dX6_lay_130 : decode cX6_lay 130 = .ok (.iconst 0, 1) := by decide +kernel
theorem dX6_lay_131 : decode cX6_lay 131 = .ok (.bastore, 1) := by decide +kernel
theorem dX6_lay_132 : decode cX6_lay 132 = .ok (.aload_n 0, 1) := by decide +kernel
theorem dX6_lay_133 : decode cX6_lay 133 = .ok (.getfield 60, 3) := by decide +kernel
theorem dX6_lay_136 : decode cX6_lay 136 = .ok (.iload 4, 2) := by decide +kernel
theorem dX6_lay_138 : decode cX6_lay 138 = .ok (.iconst 1, 1) := by decide +kernel
theorem dX6_lay_139 : decode cX6_lay 139 = .ok (.bastore, 1) := by decide +kernel
theorem dX6_lay_140 : decode cX6_lay 140 = .ok (.aload_n 0, 1) := by decide +kernel
theorem dX6_lay_141 : decode cX6_lay 141 = .ok (.getfield 60, 3) := by decide +kernel
theorem dX6_lay_144 : decode cX6_lay 144 = .ok (.iload 4, 2) := by decide +kernel
theorem dX6_lay_146 : decode cX6_lay 146 = .ok (.aload_n 0, 1) := by decide +kernel
theorem dX6_lay_147 : decode cX6_lay 147 = .ok (.invokevirtual 139, 3) := by decide +kernel
theorem dX6_lay_150 : decode cX6_lay 150 = .ok (.iload_n 1, 1) := by decide +kernel
theorem dX6_lay_151 : decode cX6_lay 151 = .ok (.if_icmp .ne 7, 3) := by decide +kernel
theorem dX6_lay_154 : decode cX6_lay 154 = .ok (.iconst 1, 1) := by decide +kernel
theorem dX6_lay_155 : decode cX6_lay 155 = .ok (.goto 4, 3) := by decide +kernel
theorem dX6_lay_158 : decode cX6_lay 158 = .ok (.iconst 0, 1) := by decide +kernel
theorem dX6_lay_159 : decode cX6_lay 159 = .ok (.bastore, 1) := by decide +kernel
theorem dX6_lay_160 : decode cX6_lay 160 = .ok (.iinc 3 1, 3) := by decide +kernel
theorem dX6_lay_163 : decode cX6_lay 163 = .ok (.goto (-68), 3) := by decide +kernel
theorem dX6_lay_166 : decode cX6_lay 166 = .ok (.iinc 2 1, 3) := by decide +kernel
theorem dX6_lay_169 : decode cX6_lay 169 = .ok (.goto (-84), 3) := by decide +kernel
theorem dX6_lay_172 : decode cX6_lay 172 = .ok (.iconst 0, 1) := by decide +kernel
theorem dX6_lay_173 : decode cX6_lay 173 = .ok (.istore_n 2, 1) := by decide +kernel
theorem dX6_lay_174 : decode cX6_lay 174 = .ok (.iload_n 2, 1) := by decide +kernel
theorem dX6_lay_175 : decode cX6_lay 175 = .ok (.bipush 100, 2) := by decide +kernel
theorem dX6_lay_177 : decode cX6_lay 177 = .ok (.if_icmp .ge 28, 3) := by decide +kernel
theorem dX6_lay_180 : decode cX6_lay 180 = .ok (.aload_n 0, 1) := by decide +kernel
theorem dX6_lay_181 : decode cX6_lay 181 = .ok (.getfield 51, 3) := by decide +kernel
theorem dX6_lay_184 : decode cX6_lay 184 = .ok (.iload_n 2, 1) := by decide +kernel
theorem dX6_lay_185 : decode cX6_lay 185 = .ok (.aload_n 0, 1) := by decide +kernel
theorem dX6_lay_186 : decode cX6_lay 186 = .ok (.getfield 60, 3) := by decide +kernel
theorem dX6_lay_189 : decode cX6_lay 189 = .ok (.iload_n 2, 1) := by decide +kernel
theorem dX6_lay_190 : decode cX6_lay 190 = .ok (.baload, 1) := by decide +kernel
theorem dX6_lay_191 : decode cX6_lay 191 = .ok (.bastore, 1) := by decide +kernel
theorem dX6_lay_192 : decode cX6_lay 192 = .ok (.aload_n 0, 1) := by decide +kernel
theorem dX6_lay_193 : decode cX6_lay 193 = .ok (.getfield 57, 3) := by decide +kernel
theorem dX6_lay_196 : decode cX6_lay 196 = .ok (.iload_n 2, 1) := by decide +kernel
theorem dX6_lay_197 : decode cX6_lay 197 = .ok (.iconst 0, 1) := by decide +kernel
theorem dX6_lay_198 : decode cX6_lay 198 = .ok (.iastore, 1) := by decide +kernel
theorem dX6_lay_199 : decode cX6_lay 199 = .ok (.iinc 2 1, 3) := by decide +kernel
theorem dX6_lay_202 : decode cX6_lay 202 = .ok (.goto (-28), 3) := by decide +kernel
theorem dX6_lay_205 : decode cX6_lay 205 = .ok (.aload_n 0, 1) := by decide +kernel
theorem dX6_lay_206 : decode cX6_lay 206 = .ok (.iconst 1, 1) := by decide +kernel
theorem dX6_lay_207 : decode cX6_lay 207 = .ok (.putfield 135, 3) := by decide +kernel
theorem dX6_lay_210 : decode cX6_lay 210 = .ok (.iload_n 1, 1) := by decide +kernel
theorem dX6_lay_211 : decode cX6_lay 211 = .ok (.ireturn, 1) := by decide +kernel
theorem dX6_isVisit_0 : decode cX6_isVisit 0 = .ok (.aload_n 0, 1) := by decide +kernel
theorem dX6_isVisit_1 : decode cX6_isVisit 1 = .ok (.getfield 135, 3) := by decide +kernel
theorem dX6_isVisit_4 : decode cX6_isVisit 4 = .ok (.ifCond .eq 21, 3) := by decide +kernel
theorem dX6_isVisit_7 : decode cX6_isVisit 7 = .ok (.aload_n 0, 1) := by decide +kernel
theorem dX6_isVisit_8 : decode cX6_isVisit 8 = .ok (.getfield 51, 3) := by decide +kernel
theorem dX6_isVisit_11 : decode cX6_isVisit 11 = .ok (.bipush 10, 2) := by decide +kernel
theorem dX6_isVisit_13 : decode cX6_isVisit 13 = .ok (.iload_n 1, 1) := by decide +kernel
theorem dX6_isVisit_14 : decode cX6_isVisit 14 = .ok (.imul, 1) := by decide +kernel
theorem dX6_isVisit_15 : decode cX6_isVisit 15 = .ok (.iload_n 2, 1) := by decide +kernel
theorem dX6_isVisit_16 : decode cX6_isVisit 16 = .ok (.iadd, 1) := by decide +kernel
theorem dX6_isVisit_17 : decode cX6_isVisit 17 = .ok (.baload, 1) := by decide +kernel
theorem dX6_isVisit_18 : decode cX6_isVisit 18 = .ok (.ifCond .eq 7, 3) := by decide +kernel
theorem dX6_isVisit_21 : decode cX6_isVisit 21 = .ok (.iconst 1, 1) := by decide +kernel
theorem dX6_isVisit_22 : decode cX6_isVisit 22 = .ok (.goto 4, 3) := by decide +kernel
theorem dX6_isVisit_25 : decode cX6_isVisit 25 = .ok (.iconst 0, 1) := by decide +kernel
theorem dX6_isVisit_26 : decode cX6_isVisit 26 = .ok (.ireturn, 1) := by decide +kernel
set_option maxRecDepth 20000 in
theorem ggX6_visitorsOf_X6_isVisit : GoodIn wsX6_visitorsOf wsX6_isVisit := goodIn_r _ [6, 7, 8, 9, 10, 11, 12, 13, 14, 15, 16, 17, 18, 19, 20, 21, 22, 23, 24, 25, 26, 27, 28, 29, 30, 31, 32, 33, 34, 35, 36, 37] (by decide +kernel) (by decide +kernel)
set_option maxRecDepth 20000 in
theorem gX6_visitorsOf_X6_isVisit : GoodIn wsX6_visitorsOf (wsV RX6 143 RX6 yX6_isVisit wsX6_isVisit) := goodIn_app (goodIn_of _ (by decide +kernel)) ggX6_visitorsOf_X6_isVisit
theorem dX6_visitorsOf_0 : decode cX6_visitorsOf 0 = .ok (.iconst 0, 1) := by decide +kernel
theorem dX6_visitorsOf_1 : decode cX6_visitorsOf 1 = .ok (.istore_n 2, 1) := by decide +kernel
theorem dX6_visitorsOf_2 : decode cX6_visitorsOf 2 = .ok (.iconst 0, 1) := by decide +kernel
theorem dX6_visitorsOf_3 : decode cX6_visitorsOf 3 = .ok (.istore_n 3, 1) := by decide +kernel
theorem dX6_visitorsOf_4 : decode cX6_visitorsOf 4 = .ok (.iload_n 3, 1) := by decide +kernel
theorem dX6_visitorsOf_5 : decode cX6_visitorsOf 5 = .ok (.aload_n 0, 1) := by decide +kernel
theorem dX6_visitorsOf_6 : decode cX6_visitorsOf 6 = .ok (.getfield 118, 3) := by decide +kernel
theorem dX6_visitorsOf_9 : decode cX6_visitorsOf 9 = .ok (.if_icmp .ge 26, 3) := by decide +kernel
theorem dX6_visitorsOf_12 : decode cX6_visitorsOf 12 = .ok (.iload_n 2, 1) := by decide +kernel
theorem dX6_visitorsOf_13 : decode cX6_visitorsOf 13 = .ok (.aload_n 0, 1) := by decide +kernel
theorem dX6_visitorsOf_14 : decode cX6_visitorsOf 14 = .ok (.iload_n 3, 1) := by decide +kernel
theorem dX6_visitorsOf_15 : decode cX6_visitorsOf 15 = .ok (.iload_n 1, 1) := by decide +kernel
theorem dX6_visitorsOf_16 : decode cX6_visitorsOf 16 = .ok (.invokevirtual 143, 3) := by decide +kernel
theorem dX6_visitorsOf_19 : decode cX6_visitorsOf 19 = .ok (.ifCond .eq 7, 3) := by decide +kernel
theorem dX6_visitorsOf_22 : decode cX6_visitorsOf 22 = .ok (.iconst 1, 1) := by decide +kernel
theorem dX6_visitorsOf_23 : decode cX6_visitorsOf 23 = .ok (.goto 4, 3) := by decide +kernel
theorem dX6_visitorsOf_26 : decode cX6_visitorsOf 26 = .ok (.iconst 0, 1) := by decide +kernel
theorem dX6_visitorsOf_27 : decode cX6_visitorsOf 27 = .ok (.iadd, 1) := by decide +kernel
theorem dX6_visitorsOf_28 : decode cX6_visitorsOf 28 = .ok (.istore_n 2, 1) := by decide +kernel
theorem dX6_visitorsOf_29 : decode cX6_visitorsOf 29 = .ok (.iinc 3 1, 3) := by decide +kernel
theorem dX6_visitorsOf_32 : decode cX6_visitorsOf 32 = .ok (.goto (-28), 3) := by decide +kernel
theorem dX6_visitorsOf_35 : decode cX6_visitorsOf 35 = .ok (.iload_n 2, 1) := by decide +kernel
theorem dX6_visitorsOf_36 : decode cX6_visitorsOf 36 = .ok (.ireturn, 1) := by decide +kernel
set_option maxRecDepth 20000 in
theorem ggX6_visitor_X6_isFarm : GoodIn wsX6_visitor wsX6_isFarm := goodIn_r _ [6, 1, 7, 8, 5, 9, 16, 17, 18, 19, 20, 21, 22, 23, 24, 25, 26, 27, 28, 29, 30, 31, 32, 33, 34, 35, 36, 37, 38, 39, 40, 41, 42, 43, 44] (by decide +kernel) (by decide +kernel)
set_option maxRecDepth 20000 in
theorem gX6_visitor_X6_isFarm : GoodIn wsX6_visitor (wsV RX6 121 RX6 yX6_isFarm wsX6_isFarm) := goodIn_app (goodIn_of _ (by decide +kernel)) ggX6_visitor_X6_isFarm
set_option maxRecDepth 20000 in
theorem ggX6_visitor_X6_isVisit : GoodIn wsX6_visitor wsX6_isVisit := goodIn_r _ [13, 14, 15, 16, 17, 18, 19, 20, 21, 22, 23, 24, 25, 26, 27, 28, 29, 30, 31, 32, 33, 34, 35, 36, 37, 38, 39, 40, 41, 42, 43, 44] (by decide +kernel) (by decide +kernel)
set_option maxRecDepth 20000 in
theorem gX6_visitor_X6_isVisit : GoodIn wsX6_visitor (wsV RX6 143 RX6 yX6_isVisit wsX6_isVisit) := goodIn_app (goodIn_of _ (by decide +kernel)) ggX6_visitor_X6_isVisit
theorem dX6_visitor_0 : decode cX6_visitor 0 = .ok (.aload_n 0, 1) := by decide +kernel
theorem dX6_visitor_1 : decode cX6_visitor 1 = .ok (.iload_n 1, 1) := by decide +kernel
theorem dX6_visitor_2 : decode cX6_visitor 2 = .ok (.invokevirtual 121, 3) := by decide +kernel
theorem dX6_visitor_5 : decode cX6_visitor 5 = .ok (.ifCond .eq 7, 3) := by decide +kernel
theorem dX6_visitor_8 : decode cX6_visitor 8 = .ok (.iload_n 2, 1) := by decide +kernel
theorem dX6_visitor_9 : decode cX6_visitor 9 = .ok (.ifCond .ge 5, 3) := by decide +kernel
theorem dX6_visitor_12 : decode cX6_visitor 12 = .ok (.iconst (-1), 1) := by decide +kernel
theorem dX6_visitor_13 : decode cX6_visitor 13 = .ok (.ireturn, 1) := by decide +kernel
theorem dX6_visitor_14 : decode cX6_visitor 14 = .ok (.iconst 0, 1) := by decide +kernel
theorem dX6_visitor_15 : decode cX6_visitor 15 = .ok (.istore_n 3, 1) := by decide +kernel
theorem dX6_visitor_16 : decode cX6_visitor 16 = .ok (.iconst 0, 1) := by decide +kernel
theorem dX6_visitor_17 : decode cX6_visitor 17 = .ok (.istore 4, 2) := by decide +kernel
theorem dX6_visitor_19 : decode cX6_visitor 19 = .ok (.iload 4, 2) := by decide +kernel
theorem dX6_visitor_21 : decode cX6_visitor 21 = .ok (.aload_n 0, 1) := by decide +kernel
theorem dX6_visitor_22 : decode cX6_visitor 22 = .ok (.getfield 118, 3) := by decide +kernel
theorem dX6_visitor_25 : decode cX6_visitor 25 = .ok (.if_icmp .ge 33, 3) := by decide +kernel
theorem dX6_visitor_28 : decode cX6_visitor 28 = .ok (.aload_n 0, 1) := by decide +kernel
theorem dX6_visitor_29 : decode cX6_visitor 29 = .ok (.iload 4, 2) := by decide +kernel
theorem dX6_visitor_31 : decode cX6_visitor 31 = .ok (.iload_n 1, 1) := by decide +kernel
theorem dX6_visitor_32 : decode cX6_visitor 32 = .ok (.invokevirtual 143, 3) := by decide +kernel
theorem dX6_visitor_35 : decode cX6_visitor 35 = .ok (.ifCond .ne 6, 3) := by decide +kernel
theorem dX6_visitor_38 : decode cX6_visitor 38 = .ok (.goto 14, 3) := by decide +kernel
theorem dX6_visitor_41 : decode cX6_visitor 41 = .ok (.iload_n 3, 1) := by decide +kernel
theorem dX6_visitor_42 : decode cX6_visitor 42 = .ok (.iload_n 2, 1) := by decide +kernel
theorem dX6_visitor_43 : decode cX6_visitor 43 = .ok (.if_icmp .ne 6, 3) := by decide +kernel
theorem dX6_visitor_46 : decode cX6_visitor 46 = .ok (.iload 4, 2) := by decide +kernel
theorem dX6_visitor_48 : decode cX6_visitor 48 = .ok (.ireturn, 1) := by decide +kernel
theorem dX6_visitor_49 : decode cX6_visitor 49 = .ok (.iinc 3 1, 3) := by decide +kernel
theorem dX6_visitor_52 : decode cX6_visitor 52 = .ok (.iinc 4 1, 3) := by decide +kernel
theorem dX6_visitor_55 : decode cX6_visitor 55 = .ok (.goto (-36), 3) := by decide +kernel
theorem dX6_visitor_58 : decode cX6_visitor 58 = .ok (.iconst (-1), 1) := by decide +kernel
theorem dX6_visitor_59 : decode cX6_visitor 59 = .ok (.ireturn, 1) := by decide +kernel
set_option maxRecDepth 20000 in
theorem ggX6_tells_X6_isFarm : GoodIn wsX6_tells wsX6_isFarm := goodIn_r _ [6, 7, 8, 9, 5, 10, 17, 18, 19, 20, 21, 22, 23, 24, 25, 26, 27, 28, 29, 30, 31, 32, 33, 34, 35, 36, 37, 38, 39, 40, 41, 42, 43, 44, 45] (by decide +kernel) (by decide +kernel)
set_option maxRecDepth 20000 in
theorem gX6_tells_X6_isFarm : GoodIn wsX6_tells (wsV RX6 121 RX6 yX6_isFarm wsX6_isFarm) := goodIn_app (goodIn_of _ (by decide +kernel)) ggX6_tells_X6_isFarm
set_option maxRecDepth 20000 in
theorem ggX6_tells_X6_isVisit : GoodIn wsX6_tells wsX6_isVisit := goodIn_r _ [14, 15, 16, 17, 18, 19, 20, 21, 22, 23, 24, 25, 26, 27, 28, 29, 30, 31, 32, 33, 34, 35, 36, 37, 38, 39, 40, 41, 42, 43, 44, 45] (by decide +kernel) (by decide +kernel)
set_option maxRecDepth 20000 in
theorem gX6_tells_X6_isVisit : GoodIn wsX6_tells (wsV RX6 143 RX6 yX6_isVisit wsX6_isVisit) := goodIn_app (goodIn_of _ (by decide +kernel)) ggX6_tells_X6_isVisit
set_option maxRecDepth 20000 in
theorem ggX6_tells_X6_lies : GoodIn wsX6_tells wsX6_lies := goodIn_r _ [10] (by decide +kernel) (by decide +kernel)
set_option maxRecDepth 20000 in
theorem gX6_tells_X6_lies : GoodIn wsX6_tells (va_wsS RX6 99 yX6_lies wsX6_lies) := goodIn_app (goodIn_of _ (by decide +kernel)) ggX6_tells_X6_lies
theorem dX6_tells_0 : decode cX6_tells 0 = .ok (.aload_n 0, 1) := by decide +kernel
theorem dX6_tells_1 : decode cX6_tells 1 = .ok (.iload_n 1, 1) := by decide +kernel
theorem dX6_tells_2 : decode cX6_tells 2 = .ok (.invokevirtual 121, 3) := by decide +kernel
theorem dX6_tells_5 : decode cX6_tells 5 = .ok (.ifCond .eq 30, 3) := by decide +kernel
theorem dX6_tells_8 : decode cX6_tells 8 = .ok (.aload_n 0, 1) := by decide +kernel
theorem dX6_tells_9 : decode cX6_tells 9 = .ok (.iload_n 2, 1) := by decide +kernel
theorem dX6_tells_10 : decode cX6_tells 10 = .ok (.invokevirtual 121, 3) := by decide +kernel
theorem dX6_tells_13 : decode cX6_tells 13 = .ok (.ifCond .eq 22, 3) := by decide +kernel
theorem dX6_tells_16 : decode cX6_tells 16 = .ok (.aload_n 0, 1) := by decide +kernel
theorem dX6_tells_17 : decode cX6_tells 17 = .ok (.iload_n 1, 1) := by decide +kernel
theorem dX6_tells_18 : decode cX6_tells 18 = .ok (.iload_n 2, 1) := by decide +kernel
theorem dX6_tells_19 : decode cX6_tells 19 = .ok (.invokevirtual 143, 3) := by decide +kernel
theorem dX6_tells_22 : decode cX6_tells 22 = .ok (.ifCond .eq 13, 3) := by decide +kernel
theorem dX6_tells_25 : decode cX6_tells 25 = .ok (.iload_n 3, 1) := by decide +kernel
theorem dX6_tells_26 : decode cX6_tells 26 = .ok (.iconst 0, 1) := by decide +kernel
theorem dX6_tells_27 : decode cX6_tells 27 = .ok (.bipush 7, 2) := by decide +kernel
theorem dX6_tells_29 : decode cX6_tells 29 = .ok (.invokestatic 99, 3) := by decide +kernel
theorem dX6_tells_32 : decode cX6_tells 32 = .ok (.ifCond .ne 5, 3) := by decide +kernel
theorem dX6_tells_35 : decode cX6_tells 35 = .ok (.iconst 0, 1) := by decide +kernel
theorem dX6_tells_36 : decode cX6_tells 36 = .ok (.ireturn, 1) := by decide +kernel
theorem dX6_tells_37 : decode cX6_tells 37 = .ok (.bipush 10, 2) := by decide +kernel
theorem dX6_tells_39 : decode cX6_tells 39 = .ok (.iload_n 1, 1) := by decide +kernel
theorem dX6_tells_40 : decode cX6_tells 40 = .ok (.imul, 1) := by decide +kernel
theorem dX6_tells_41 : decode cX6_tells 41 = .ok (.iload_n 2, 1) := by decide +kernel
theorem dX6_tells_42 : decode cX6_tells 42 = .ok (.iadd, 1) := by decide +kernel
theorem dX6_tells_43 : decode cX6_tells 43 = .ok (.istore 5, 2) := by decide +kernel
theorem dX6_tells_45 : decode cX6_tells 45 = .ok (.aload_n 0, 1) := by decide +kernel
theorem dX6_tells_46 : decode cX6_tells 46 = .ok (.getfield 57, 3) := by decide +kernel
theorem dX6_tells_49 : decode cX6_tells 49 = .ok (.iload 5, 2) := by decide +kernel
theorem dX6_tells_51 : decode cX6_tells 51 = .ok (.iload 4, 2) := by decide +kernel
theorem dX6_tells_53 : decode cX6_tells 53 = .ok (.ifCond .eq 17, 3) := by decide +kernel
theorem dX6_tells_56 : decode cX6_tells 56 = .ok (.aload_n 0, 1) := by decide +kernel
theorem dX6_tells_57 : decode cX6_tells 57 = .ok (.getfield 57, 3) := by decide +kernel
theorem dX6_tells_60 : decode cX6_tells 60 = .ok (.iload 5, 2) := by decide +kernel
theorem dX6_tells_62 : decode cX6_tells 62 = .ok (.iaload, 1) := by decide +kernel
theorem dX6_tells_63 : decode cX6_tells 63 = .ok (.iconst 1, 1) := by decide +kernel
theorem dX6_tells_64 : decode cX6_tells 64 = .ok (.iload_n 3, 1) := by decide +kernel
theorem dX6_tells_65 : decode cX6_tells 65 = .ok (.ishl, 1) := by decide +kernel
theorem dX6_tells_66 : decode cX6_tells 66 = .ok (.ior, 1) := by decide +kernel
theorem dX6_tells_67 : decode cX6_tells 67 = .ok (.goto 16, 3) := by decide +kernel
theorem dX6_tells_70 : decode cX6_tells 70 = .ok (.aload_n 0, 1) := by decide +kernel
theorem dX6_tells_71 : decode cX6_tells 71 = .ok (.getfield 57, 3) := by decide +kernel
theorem dX6_tells_74 : decode cX6_tells 74 = .ok (.iload 5, 2) := by decide +kernel
theorem dX6_tells_76 : decode cX6_tells 76 = .ok (.iaload, 1) := by decide +kernel
theorem dX6_tells_77 : decode cX6_tells 77 = .ok (.iconst 1, 1) := by decide +kernel
theorem dX6_tells_78 : decode cX6_tells 78 = .ok (.iload_n 3, 1) := by decide +kernel
theorem dX6_tells_79 : decode cX6_tells 79 = .ok (.ishl, 1) := by decide +kernel
theorem dX6_tells_80 : decode cX6_tells 80 = .ok (.iconst (-1), 1) := by decide +kernel
theorem dX6_tells_81 : decode cX6_tells 81 = .ok (.ixor, 1) := by decide +kernel
theorem dX6_tells_82 : decode cX6_tells 82 = .ok (.iand, 1) := by decide +kernel
theorem dX6_tells_83 : decode cX6_tells 83 = .ok (.iastore, 1) := by decide +kernel
theorem dX6_tells_84 : decode cX6_tells 84 = .ok (.iconst 1, 1) := by decide +kernel
theorem dX6_tells_85 : decode cX6_tells 85 = .ok (.ireturn, 1) := by decide +kernel
set_option maxRecDepth 20000 in
theorem ggX6_breachesAt_X6_isVisit : GoodIn wsX6_breachesAt wsX6_isVisit := goodIn_r _ [7, 8, 9, 10, 11, 12, 13, 14, 15, 16, 17, 18, 19, 20, 21, 22, 23, 24, 25, 26, 27, 28, 29, 30, 31, 32, 33, 34, 35, 36, 37, 38] (by decide +kernel) (by decide +kernel)
set_option maxRecDepth 20000 in
theorem gX6_breachesAt_X6_isVisit : GoodIn wsX6_breachesAt (wsV RX6 143 RX6 yX6_isVisit wsX6_isVisit) := goodIn_app (goodIn_of _ (by decide +kernel)) ggX6_breachesAt_X6_isVisit
theorem dX6_breachesAt_0 : decode cX6_breachesAt 0 = .ok (.iconst 0, 1) := by decide +kernel
theorem dX6_breachesAt_1 : decode cX6_breachesAt 1 = .ok (.istore_n 2, 1) := by decide +kernel
theorem dX6_breachesAt_2 : decode cX6_breachesAt 2 = .ok (.iconst 0, 1) := by decide +kernel
theorem dX6_breachesAt_3 : decode cX6_breachesAt 3 = .ok (.istore_n 3, 1) := by decide +kernel
theorem dX6_breachesAt_4 : decode cX6_breachesAt 4 = .ok (.iload_n 3, 1) := by decide +kernel
theorem dX6_breachesAt_5 : decode cX6_breachesAt 5 = .ok (.bipush 8, 2) := by decide +kernel
theorem dX6_breachesAt_7 : decode cX6_breachesAt 7 = .ok (.if_icmp .ge 81, 3) := by decide +kernel
theorem dX6_breachesAt_10 : decode cX6_breachesAt 10 = .ok (.iconst 0, 1) := by decide +kernel
theorem dX6_breachesAt_11 : decode cX6_breachesAt 11 = .ok (.istore 4, 2) := by decide +kernel
theorem dX6_breachesAt_13 : decode cX6_breachesAt 13 = .ok (.iconst 0, 1) := by decide +kernel
theorem dX6_breachesAt_14 : decode cX6_breachesAt 14 = .ok (.istore 5, 2) := by decide +kernel
theorem dX6_breachesAt_16 : decode cX6_breachesAt 16 = .ok (.iload 5, 2) := by decide +kernel
theorem dX6_breachesAt_18 : decode cX6_breachesAt 18 = .ok (.aload_n 0, 1) := by decide +kernel
theorem dX6_breachesAt_19 : decode cX6_breachesAt 19 = .ok (.getfield 118, 3) := by decide +kernel
theorem dX6_breachesAt_22 : decode cX6_breachesAt 22 = .ok (.if_icmp .ge 44, 3) := by decide +kernel
theorem dX6_breachesAt_25 : decode cX6_breachesAt 25 = .ok (.iload 4, 2) := by decide +kernel
theorem dX6_breachesAt_27 : decode cX6_breachesAt 27 = .ok (.aload_n 0, 1) := by decide +kernel
theorem dX6_breachesAt_28 : decode cX6_breachesAt 28 = .ok (.iload 5, 2) := by decide +kernel
theorem dX6_breachesAt_30 : decode cX6_breachesAt 30 = .ok (.iload_n 1, 1) := by decide +kernel
theorem dX6_breachesAt_31 : decode cX6_breachesAt 31 = .ok (.invokevirtual 143, 3) := by decide +kernel
theorem dX6_breachesAt_34 : decode cX6_breachesAt 34 = .ok (.ifCond .eq 22, 3) := by decide +kernel
theorem dX6_breachesAt_37 : decode cX6_breachesAt 37 = .ok (.aload_n 0, 1) := by decide +kernel
theorem dX6_breachesAt_38 : decode cX6_breachesAt 38 = .ok (.getfield 57, 3) := by decide +kernel
theorem dX6_breachesAt_41 : decode cX6_breachesAt 41 = .ok (.bipush 10, 2) := by decide +kernel
theorem dX6_breachesAt_43 : decode cX6_breachesAt 43 = .ok (.iload 5, 2) := by decide +kernel
theorem dX6_breachesAt_45 : decode cX6_breachesAt 45 = .ok (.imul, 1) := by decide +kernel
theorem dX6_breachesAt_46 : decode cX6_breachesAt 46 = .ok (.iload_n 1, 1) := by decide +kernel
theorem dX6_breachesAt_47 : decode cX6_breachesAt 47 = .ok (.iadd, 1) := by decide +kernel
theorem dX6_breachesAt_48 : decode cX6_breachesAt 48 = .ok (.iaload, 1) := by decide +kernel
theorem dX6_breachesAt_49 : decode cX6_breachesAt 49 = .ok (.iload_n 3, 1) := by decide +kernel
theorem dX6_breachesAt_50 : decode cX6_breachesAt 50 = .ok (.ishr, 1) := by decide +kernel
theorem dX6_breachesAt_51 : decode cX6_breachesAt 51 = .ok (.iconst 1, 1) := by decide +kernel
theorem dX6_breachesAt_52 : decode cX6_breachesAt 52 = .ok (.iand, 1) := by decide +kernel
theorem dX6_breachesAt_53 : decode cX6_breachesAt 53 = .ok (.goto 4, 3) := by decide +kernel
theorem dX6_breachesAt_56 : decode cX6_breachesAt 56 = .ok (.iconst 0, 1) := by decide +kernel
theorem dX6_breachesAt_57 : decode cX6_breachesAt 57 = .ok (.iadd, 1) := by decide +kernel
theorem dX6_breachesAt_58 : decode cX6_breachesAt 58 = .ok (.istore 4, 2) := by decide +kernel
theorem dX6_breachesAt_60 : decode cX6_breachesAt 60 = .ok (.iinc 5 1, 3) := by decide +kernel
theorem dX6_breachesAt_63 : decode cX6_breachesAt 63 = .ok (.goto (-47), 3) := by decide +kernel
theorem dX6_breachesAt_66 : decode cX6_breachesAt 66 = .ok (.iload_n 2, 1) := by decide +kernel
theorem dX6_breachesAt_67 : decode cX6_breachesAt 67 = .ok (.iload 4, 2) := by decide +kernel
theorem dX6_breachesAt_69 : decode cX6_breachesAt 69 = .ok (.iconst 1, 1) := by decide +kernel
theorem dX6_breachesAt_70 : decode cX6_breachesAt 70 = .ok (.if_icmp .le 9, 3) := by decide +kernel
theorem dX6_breachesAt_73 : decode cX6_breachesAt 73 = .ok (.iconst 1, 1) := by decide +kernel
theorem dX6_breachesAt_74 : decode cX6_breachesAt 74 = .ok (.iload_n 3, 1) := by decide +kernel
theorem dX6_breachesAt_75 : decode cX6_breachesAt 75 = .ok (.ishl, 1) := by decide +kernel
theorem dX6_breachesAt_76 : decode cX6_breachesAt 76 = .ok (.goto 4, 3) := by decide +kernel
theorem dX6_breachesAt_79 : decode cX6_breachesAt 79 = .ok (.iconst 0, 1) := by decide +kernel
theorem dX6_breachesAt_80 : decode cX6_breachesAt 80 = .ok (.ior, 1) := by decide +kernel
theorem dX6_breachesAt_81 : decode cX6_breachesAt 81 = .ok (.istore_n 2, 1) := by decide +kernel
theorem dX6_breachesAt_82 : decode cX6_breachesAt 82 = .ok (.iinc 3 1, 3) := by decide +kernel
theorem dX6_breachesAt_85 : decode cX6_breachesAt 85 = .ok (.goto (-81), 3) := by decide +kernel
theorem dX6_breachesAt_88 : decode cX6_breachesAt 88 = .ok (.iload_n 2, 1) := by decide +kernel
theorem dX6_breachesAt_89 : decode cX6_breachesAt 89 = .ok (.ireturn, 1) := by decide +kernel
set_option maxRecDepth 20000 in
theorem ggX6_weighsAt_X6_breachesAt : GoodIn wsX6_weighsAt wsX6_breachesAt := goodIn_r _ [6, 7, 8, 9, 10, 11, 5, 12, 13, 14, 15, 16, 17, 18, 19, 20, 21, 22, 23, 24, 25, 26, 27, 28, 29, 30, 31, 32, 33, 34, 35, 36, 37, 38, 39, 40, 41, 42, 43] (by decide +kernel) (by decide +kernel)
set_option maxRecDepth 20000 in
theorem gX6_weighsAt_X6_breachesAt : GoodIn wsX6_weighsAt (wsV RX6 146 RX6 yX6_breachesAt wsX6_breachesAt) := goodIn_app (goodIn_of _ (by decide +kernel)) ggX6_weighsAt_X6_breachesAt
theorem dX6_weighsAt_0 : decode cX6_weighsAt 0 = .ok (.aload_n 0, 1) := by decide +kernel
theorem dX6_weighsAt_1 : decode cX6_weighsAt 1 = .ok (.iload_n 1, 1) := by decide +kernel
theorem dX6_weighsAt_2 : decode cX6_weighsAt 2 = .ok (.invokevirtual 146, 3) := by decide +kernel
theorem dX6_weighsAt_5 : decode cX6_weighsAt 5 = .ok (.istore_n 2, 1) := by decide +kernel
theorem dX6_weighsAt_6 : decode cX6_weighsAt 6 = .ok (.iconst 0, 1) := by decide +kernel
theorem dX6_weighsAt_7 : decode cX6_weighsAt 7 = .ok (.istore_n 3, 1) := by decide +kernel
theorem dX6_weighsAt_8 : decode cX6_weighsAt 8 = .ok (.iconst 0, 1) := by decide +kernel
theorem dX6_weighsAt_9 : decode cX6_weighsAt 9 = .ok (.istore 4, 2) := by decide +kernel
theorem dX6_weighsAt_11 : decode cX6_weighsAt 11 = .ok (.iload 4, 2) := by decide +kernel
theorem dX6_weighsAt_13 : decode cX6_weighsAt 13 = .ok (.bipush 8, 2) := by decide +kernel
theorem dX6_weighsAt_15 : decode cX6_weighsAt 15 = .ok (.if_icmp .ge 26, 3) := by decide +kernel
theorem dX6_weighsAt_18 : decode cX6_weighsAt 18 = .ok (.iload_n 3, 1) := by decide +kernel
theorem dX6_weighsAt_19 : decode cX6_weighsAt 19 = .ok (.iload_n 2, 1) := by decide +kernel
theorem dX6_weighsAt_20 : decode cX6_weighsAt 20 = .ok (.iload 4, 2) := by decide +kernel
theorem dX6_weighsAt_22 : decode cX6_weighsAt 22 = .ok (.ishr, 1) := by decide +kernel
theorem dX6_weighsAt_23 : decode cX6_weighsAt 23 = .ok (.iconst 1, 1) := by decide +kernel
theorem dX6_weighsAt_24 : decode cX6_weighsAt 24 = .ok (.iand, 1) := by decide +kernel
theorem dX6_weighsAt_25 : decode cX6_weighsAt 25 = .ok (.aload_n 0, 1) := by decide +kernel
theorem dX6_weighsAt_26 : decode cX6_weighsAt 26 = .ok (.getfield 26, 3) := by decide +kernel
theorem dX6_weighsAt_29 : decode cX6_weighsAt 29 = .ok (.iload 4, 2) := by decide +kernel
theorem dX6_weighsAt_31 : decode cX6_weighsAt 31 = .ok (.iaload, 1) := by decide +kernel
theorem dX6_weighsAt_32 : decode cX6_weighsAt 32 = .ok (.imul, 1) := by decide +kernel
theorem dX6_weighsAt_33 : decode cX6_weighsAt 33 = .ok (.iadd, 1) := by decide +kernel
theorem dX6_weighsAt_34 : decode cX6_weighsAt 34 = .ok (.istore_n 3, 1) := by decide +kernel
theorem dX6_weighsAt_35 : decode cX6_weighsAt 35 = .ok (.iinc 4 1, 3) := by decide +kernel
theorem dX6_weighsAt_38 : decode cX6_weighsAt 38 = .ok (.goto (-27), 3) := by decide +kernel
theorem dX6_weighsAt_41 : decode cX6_weighsAt 41 = .ok (.iload_n 3, 1) := by decide +kernel
theorem dX6_weighsAt_42 : decode cX6_weighsAt 42 = .ok (.ireturn, 1) := by decide +kernel
set_option maxRecDepth 20000 in
theorem ggX6_breaches_X6_isFarm : GoodIn wsX6_breaches wsX6_isFarm := goodIn_r _ [5, 6, 7, 8, 4, 9, 21, 22, 23, 24, 25, 26, 27, 28, 29, 30, 31, 32, 33, 34, 35, 36, 37, 38, 39, 40, 41, 42, 43, 44, 45, 46, 47, 48, 49] (by decide +kernel) (by decide +kernel)
set_option maxRecDepth 20000 in
theorem gX6_breaches_X6_isFarm : GoodIn wsX6_breaches (wsV RX6 121 RX6 yX6_isFarm wsX6_isFarm) := goodIn_app (goodIn_of _ (by decide +kernel)) ggX6_breaches_X6_isFarm
set_option maxRecDepth 20000 in
theorem ggX6_breaches_X6_breachesAt : GoodIn wsX6_breaches wsX6_breachesAt := goodIn_r _ [13, 6, 14, 15, 16, 17, 4, 18, 19, 20, 21, 22, 23, 24, 25, 26, 27, 28, 29, 30, 31, 32, 33, 34, 35, 36, 37, 38, 39, 40, 41, 42, 43, 44, 45, 46, 47, 48, 49] (by decide +kernel) (by decide +kernel)
set_option maxRecDepth 20000 in
theorem gX6_breaches_X6_breachesAt : GoodIn wsX6_breaches (wsV RX6 146 RX6 yX6_breachesAt wsX6_breachesAt) := goodIn_app (goodIn_of _ (by decide +kernel)) ggX6_breaches_X6_breachesAt
theorem dX6_breaches_0 : decode cX6_breaches 0 = .ok (.aload_n 0, 1) := by decide +kernel
theorem dX6_breaches_1 : decode cX6_breaches 1 = .ok (.iload_n 1, 1) := by decide +kernel
theorem dX6_breaches_2 : decode cX6_breaches 2 = .ok (.invokevirtual 121, 3) := by decide +kernel
theorem dX6_breaches_5 : decode cX6_breaches 5 = .ok (.ifCond .eq 11, 3) := by decide +kernel
theorem dX6_breaches_8 : decode cX6_breaches 8 = .ok (.aload_n 0, 1) := by decide +kernel
theorem dX6_breaches_9 : decode cX6_breaches 9 = .ok (.iload_n 1, 1) := by decide +kernel
theorem dX6_breaches_10 : decode cX6_breaches 10 = .ok (.invokevirtual 146, 3) := by decide +kernel
theorem dX6_breaches_13 : decode cX6_breaches 13 = .ok (.goto 4, 3) := by decide +kernel
theorem dX6_breaches_16 : decode cX6_breaches 16 = .ok (.iconst (-1), 1) := by decide +kernel
theorem dX6_breaches_17 : decode cX6_breaches 17 = .ok (.ireturn, 1) := by decide +kernel
set_option maxRecDepth 20000 in
theorem ggX6_weighs_X6_isFarm : GoodIn wsX6_weighs wsX6_isFarm := goodIn_r _ [5, 6, 7, 8, 4, 9, 26, 27, 28, 29, 30, 31, 32, 33, 34, 35, 36, 37, 38, 39, 40, 41, 42, 43, 44, 45, 46, 47, 48, 49, 50, 51, 52, 53, 54] (by decide +kernel) (by decide +kernel)
set_option maxRecDepth 20000 in
theorem gX6_weighs_X6_isFarm : GoodIn wsX6_weighs (wsV RX6 121 RX6 yX6_isFarm wsX6_isFarm) := goodIn_app (goodIn_of _ (by decide +kernel)) ggX6_weighs_X6_isFarm
set_option maxRecDepth 20000 in
theorem ggX6_weighs_X6_weighsAt : GoodIn wsX6_weighs wsX6_weighsAt := goodIn_r _ [13, 14, 15, 16, 17, 4, 18, 6, 19, 20, 21, 22, 23, 24, 25, 26, 27, 28, 29, 30, 31, 32, 33, 34, 35, 36, 37, 38, 39, 40, 41, 42, 43, 44, 45, 46, 47, 48, 49, 50, 51, 52, 53, 54] (by decide +kernel) (by decide +kernel)
set_option maxRecDepth 20000 in
theorem gX6_weighs_X6_weighsAt : GoodIn wsX6_weighs (wsV RX6 149 RX6 yX6_weighsAt wsX6_weighsAt) := goodIn_app (goodIn_of _ (by decide +kernel)) ggX6_weighs_X6_weighsAt
theorem dX6_weighs_0 : decode cX6_weighs 0 = .ok (.aload_n 0, 1) := by decide +kernel
theorem dX6_weighs_1 : decode cX6_weighs 1 = .ok (.iload_n 1, 1) := by decide +kernel
theorem dX6_weighs_2 : decode cX6_weighs 2 = .ok (.invokevirtual 121, 3) := by decide +kernel
theorem dX6_weighs_5 : decode cX6_weighs 5 = .ok (.ifCond .eq 11, 3) := by decide +kernel
theorem dX6_weighs_8 : decode cX6_weighs 8 = .ok (.aload_n 0, 1) := by decide +kernel
theorem dX6_weighs_9 : decode cX6_weighs 9 = .ok (.iload_n 1, 1) := by decide +kernel
theorem dX6_weighs_10 : decode cX6_weighs 10 = .ok (.invokevirtual 149, 3) := by decide +kernel
theorem dX6_weighs_13 : decode cX6_weighs 13 = .ok (.goto 4, 3) := by decide +kernel
theorem dX6_weighs_16 : decode cX6_weighs 16 = .ok (.iconst (-1), 1) := by decide +kernel
theorem dX6_weighs_17 : decode cX6_weighs 17 = .ok (.ireturn, 1) := by decide +kernel
set_option maxRecDepth 20000 in
theorem ggX6_isVouched_X6_isVisit : GoodIn wsX6_isVouched wsX6_isVisit := goodIn_r _ [6, 7, 8, 9, 10, 11, 12, 13, 14, 15, 16, 17, 18, 19, 20, 21, 22, 23, 24, 25, 26, 27, 28, 29, 30, 31, 32, 33, 34, 35, 36, 37] (by decide +kernel) (by decide +kernel)
set_option maxRecDepth 20000 in
theorem gX6_isVouched_X6_isVisit : GoodIn wsX6_isVouched (wsV RX6 143 RX6 yX6_isVisit wsX6_isVisit) := goodIn_app (goodIn_of _ (by decide +kernel)) ggX6_isVouched_X6_isVisit
theorem dX6_isVouched_0 : decode cX6_isVouched 0 = .ok (.aload_n 0, 1) := by decide +kernel
theorem dX6_isVouched_1 : decode cX6_isVouched 1 = .ok (.iload_n 1, 1) := by decide +kernel
theorem dX6_isVouched_2 : decode cX6_isVouched 2 = .ok (.iload_n 2, 1) := by decide +kernel
theorem dX6_isVouched_3 : decode cX6_isVouched 3 = .ok (.invokevirtual 143, 3) := by decide +kernel
theorem dX6_isVouched_6 : decode cX6_isVouched 6 = .ok (.ifCond .eq 21, 3) := by decide +kernel
theorem dX6_isVouched_9 : decode cX6_isVouched 9 = .ok (.aload_n 0, 1) := by decide +kernel
theorem dX6_isVouched_10 : decode cX6_isVouched 10 = .ok (.getfield 57, 3) := by decide +kernel
theorem dX6_isVouched_13 : decode cX6_isVouched 13 = .ok (.bipush 10, 2) := by decide +kernel
theorem dX6_isVouched_15 : decode cX6_isVouched 15 = .ok (.iload_n 1, 1) := by decide +kernel
theorem dX6_isVouched_16 : decode cX6_isVouched 16 = .ok (.imul, 1) := by decide +kernel
theorem dX6_isVouched_17 : decode cX6_isVouched 17 = .ok (.iload_n 2, 1) := by decide +kernel
theorem dX6_isVouched_18 : decode cX6_isVouched 18 = .ok (.iadd, 1) := by decide +kernel
theorem dX6_isVouched_19 : decode cX6_isVouched 19 = .ok (.iaload, 1) := by decide +kernel
theorem dX6_isVouched_20 : decode cX6_isVouched 20 = .ok (.ifCond .ne 7, 3) := by decide +kernel
theorem dX6_isVouched_23 : decode cX6_isVouched 23 = .ok (.iconst 1, 1) := by decide +kernel
theorem dX6_isVouched_24 : decode cX6_isVouched 24 = .ok (.goto 4, 3) := by decide +kernel
theorem dX6_isVouched_27 : decode cX6_isVouched 27 = .ok (.iconst 0, 1) := by decide +kernel
theorem dX6_isVouched_28 : decode cX6_isVouched 28 = .ok (.ireturn, 1) := by decide +kernel
set_option maxRecDepth 20000 in
theorem ggX6_vouches_X6_isFarm : GoodIn wsX6_vouches wsX6_isFarm := goodIn_r _ [5, 6, 7, 8, 4, 9, 21, 22, 23, 24, 25, 26, 27, 28, 29, 30, 31, 32, 33, 34, 35, 36, 37, 38, 39, 40, 41, 42, 43, 44, 45, 46, 47, 48, 49] (by decide +kernel) (by decide +kernel)
set_option maxRecDepth 20000 in
theorem gX6_vouches_X6_isFarm : GoodIn wsX6_vouches (wsV RX6 121 RX6 yX6_isFarm wsX6_isFarm) := goodIn_app (goodIn_of _ (by decide +kernel)) ggX6_vouches_X6_isFarm
set_option maxRecDepth 20000 in
theorem ggX6_vouches_X6_isVouched : GoodIn wsX6_vouches wsX6_isVouched := goodIn_r _ [13, 14, 15, 16, 17, 4, 18, 19, 20, 21, 22, 23, 24, 25, 26, 27, 28, 29, 30, 31, 32, 33, 34, 35, 36, 37, 38, 39, 40, 41, 42, 43, 44, 45, 46, 47, 48, 49] (by decide +kernel) (by decide +kernel)
set_option maxRecDepth 20000 in
theorem gX6_vouches_X6_isVouched : GoodIn wsX6_vouches (wsV RX6 152 RX6 yX6_isVouched wsX6_isVouched) := goodIn_app (goodIn_of _ (by decide +kernel)) ggX6_vouches_X6_isVouched
theorem dX6_vouches_0 : decode cX6_vouches 0 = .ok (.aload_n 0, 1) := by decide +kernel
theorem dX6_vouches_1 : decode cX6_vouches 1 = .ok (.iload_n 1, 1) := by decide +kernel
theorem dX6_vouches_2 : decode cX6_vouches 2 = .ok (.invokevirtual 121, 3) := by decide +kernel
theorem dX6_vouches_5 : decode cX6_vouches 5 = .ok (.ifCond .eq 11, 3) := by decide +kernel
theorem dX6_vouches_8 : decode cX6_vouches 8 = .ok (.aload_n 0, 1) := by decide +kernel
theorem dX6_vouches_9 : decode cX6_vouches 9 = .ok (.iload_n 2, 1) := by decide +kernel
theorem dX6_vouches_10 : decode cX6_vouches 10 = .ok (.invokevirtual 121, 3) := by decide +kernel
theorem dX6_vouches_13 : decode cX6_vouches 13 = .ok (.ifCond .ne 7, 3) := by decide +kernel
theorem dX6_vouches_16 : decode cX6_vouches 16 = .ok (.iconst (-1), 1) := by decide +kernel
theorem dX6_vouches_17 : decode cX6_vouches 17 = .ok (.goto 17, 3) := by decide +kernel
theorem dX6_vouches_20 : decode cX6_vouches 20 = .ok (.aload_n 0, 1) := by decide +kernel
theorem dX6_vouches_21 : decode cX6_vouches 21 = .ok (.iload_n 1, 1) := by decide +kernel
theorem dX6_vouches_22 : decode cX6_vouches 22 = .ok (.iload_n 2, 1) := by decide +kernel
theorem dX6_vouches_23 : decode cX6_vouches 23 = .ok (.invokevirtual 152, 3) := by decide +kernel
theorem dX6_vouches_26 : decode cX6_vouches 26 = .ok (.ifCond .eq 7, 3) := by decide +kernel
theorem dX6_vouches_29 : decode cX6_vouches 29 = .ok (.iconst 1, 1) := by decide +kernel
theorem dX6_vouches_30 : decode cX6_vouches 30 = .ok (.goto 4, 3) := by decide +kernel
theorem dX6_vouches_33 : decode cX6_vouches 33 = .ok (.iconst 0, 1) := by decide +kernel
theorem dX6_vouches_34 : decode cX6_vouches 34 = .ok (.ireturn, 1) := by decide +kernel
set_option maxRecDepth 20000 in
theorem ggX6_trust_X6_isFarm : GoodIn wsX6_trust wsX6_isFarm := goodIn_r _ [7, 1, 8, 9, 6, 10, 22, 23, 24, 25, 26, 27, 28, 29, 30, 31, 32, 33, 34, 35, 36, 37, 38, 39, 40, 41, 42, 43, 44, 45, 46, 47, 48, 49, 50] (by decide +kernel) (by decide +kernel)
set_option maxRecDepth 20000 in
theorem gX6_trust_X6_isFarm : GoodIn wsX6_trust (wsV RX6 121 RX6 yX6_isFarm wsX6_isFarm) := goodIn_app (goodIn_of _ (by decide +kernel)) ggX6_trust_X6_isFarm
set_option maxRecDepth 20000 in
theorem ggX6_trust_X6_isVouched : GoodIn wsX6_trust wsX6_isVouched := goodIn_r _ [14, 15, 16, 17, 18, 6, 19, 20, 21, 22, 23, 24, 25, 26, 27, 28, 29, 30, 31, 32, 33, 34, 35, 36, 37, 38, 39, 40, 41, 42, 43, 44, 45, 46, 47, 48, 49, 50] (by decide +kernel) (by decide +kernel)
set_option maxRecDepth 20000 in
theorem gX6_trust_X6_isVouched : GoodIn wsX6_trust (wsV RX6 152 RX6 yX6_isVouched wsX6_isVouched) := goodIn_app (goodIn_of _ (by decide +kernel)) ggX6_trust_X6_isVouched
theorem dX6_trust_0 : decode cX6_trust 0 = .ok (.aload_n 0, 1) := by decide +kernel
theorem dX6_trust_1 : decode cX6_trust 1 = .ok (.iload_n 1, 1) := by decide +kernel
theorem dX6_trust_2 : decode cX6_trust 2 = .ok (.invokevirtual 121, 3) := by decide +kernel
theorem dX6_trust_5 : decode cX6_trust 5 = .ok (.ifCond .eq 11, 3) := by decide +kernel
theorem dX6_trust_8 : decode cX6_trust 8 = .ok (.aload_n 0, 1) := by decide +kernel
theorem dX6_trust_9 : decode cX6_trust 9 = .ok (.iload_n 2, 1) := by decide +kernel
theorem dX6_trust_10 : decode cX6_trust 10 = .ok (.invokevirtual 121, 3) := by decide +kernel
theorem dX6_trust_13 : decode cX6_trust 13 = .ok (.ifCond .ne 5, 3) := by decide +kernel
theorem dX6_trust_16 : decode cX6_trust 16 = .ok (.iconst (-1), 1) := by decide +kernel
theorem dX6_trust_17 : decode cX6_trust 17 = .ok (.ireturn, 1) := by decide +kernel
theorem dX6_trust_18 : decode cX6_trust 18 = .ok (.iconst 0, 1) := by decide +kernel
theorem dX6_trust_19 : decode cX6_trust 19 = .ok (.istore_n 3, 1) := by decide +kernel
theorem dX6_trust_20 : decode cX6_trust 20 = .ok (.iload_n 3, 1) := by decide +kernel
theorem dX6_trust_21 : decode cX6_trust 21 = .ok (.aload_n 0, 1) := by decide +kernel
theorem dX6_trust_22 : decode cX6_trust 22 = .ok (.getfield 118, 3) := by decide +kernel
theorem dX6_trust_25 : decode cX6_trust 25 = .ok (.if_icmp .ge 25, 3) := by decide +kernel
theorem dX6_trust_28 : decode cX6_trust 28 = .ok (.aload_n 0, 1) := by decide +kernel
theorem dX6_trust_29 : decode cX6_trust 29 = .ok (.getfield 84, 3) := by decide +kernel
theorem dX6_trust_32 : decode cX6_trust 32 = .ok (.iload_n 3, 1) := by decide +kernel
theorem dX6_trust_33 : decode cX6_trust 33 = .ok (.iload_n 3, 1) := by decide +kernel
theorem dX6_trust_34 : decode cX6_trust 34 = .ok (.iload_n 1, 1) := by decide +kernel
theorem dX6_trust_35 : decode cX6_trust 35 = .ok (.if_icmp .ne 7, 3) := by decide +kernel
theorem dX6_trust_38 : decode cX6_trust 38 = .ok (.iconst 0, 1) := by decide +kernel
theorem dX6_trust_39 : decode cX6_trust 39 = .ok (.goto 4, 3) := by decide +kernel
theorem dX6_trust_42 : decode cX6_trust 42 = .ok (.iconst (-1), 1) := by decide +kernel
theorem dX6_trust_43 : decode cX6_trust 43 = .ok (.iastore, 1) := by decide +kernel
theorem dX6_trust_44 : decode cX6_trust 44 = .ok (.iinc 3 1, 3) := by decide +kernel
theorem dX6_trust_47 : decode cX6_trust 47 = .ok (.goto (-27), 3) := by decide +kernel
theorem dX6_trust_50 : decode cX6_trust 50 = .ok (.iconst 1, 1) := by decide +kernel
theorem dX6_trust_51 : decode cX6_trust 51 = .ok (.istore_n 3, 1) := by decide +kernel
theorem dX6_trust_52 : decode cX6_trust 52 = .ok (.iload_n 3, 1) := by decide +kernel
theorem dX6_trust_53 : decode cX6_trust 53 = .ok (.aload_n 0, 1) := by decide +kernel
theorem dX6_trust_54 : decode cX6_trust 54 = .ok (.getfield 118, 3) := by decide +kernel
theorem dX6_trust_57 : decode cX6_trust 57 = .ok (.if_icmp .ge 91, 3) := by decide +kernel
theorem dX6_trust_60 : decode cX6_trust 60 = .ok (.iconst 0, 1) := by decide +kernel
theorem dX6_trust_61 : decode cX6_trust 61 = .ok (.istore 4, 2) := by decide +kernel
theorem dX6_trust_63 : decode cX6_trust 63 = .ok (.iload 4, 2) := by decide +kernel
theorem dX6_trust_65 : decode cX6_trust 65 = .ok (.aload_n 0, 1) := by decide +kernel
theorem dX6_trust_66 : decode cX6_trust 66 = .ok (.getfield 118, 3) := by decide +kernel
theorem dX6_trust_69 : decode cX6_trust 69 = .ok (.if_icmp .ge 73, 3) := by decide +kernel
theorem dX6_trust_72 : decode cX6_trust 72 = .ok (.aload_n 0, 1) := by decide +kernel
theorem dX6_trust_73 : decode cX6_trust 73 = .ok (.getfield 84, 3) := by decide +kernel
theorem dX6_trust_76 : decode cX6_trust 76 = .ok (.iload 4, 2) := by decide +kernel
theorem dX6_trust_78 : decode cX6_trust 78 = .ok (.iaload, 1) := by decide +kernel
theorem dX6_trust_79 : decode cX6_trust 79 = .ok (.iload_n 3, 1) := by decide +kernel
theorem dX6_trust_80 : decode cX6_trust 80 = .ok (.iconst 1, 1) := by decide +kernel
theorem dX6_trust_81 : decode cX6_trust 81 = .ok (.isub, 1) := by decide +kernel
theorem dX6_trust_82 : decode cX6_trust 82 = .ok (.if_icmp .eq 6, 3) := by decide +kernel
theorem dX6_trust_85 : decode cX6_trust 85 = .ok (.goto 51, 3) := by decide +kernel
theorem dX6_trust_88 : decode cX6_trust 88 = .ok (.iconst 0, 1) := by decide +kernel
theorem dX6_trust_89 : decode cX6_trust 89 = .ok (.istore 5, 2) := by decide +kernel
theorem dX6_trust_91 : decode cX6_trust 91 = .ok (.iload 5, 2) := by decide +kernel
theorem dX6_trust_93 : decode cX6_trust 93 = .ok (.aload_n 0, 1) := by decide +kernel
theorem dX6_trust_94 : decode cX6_trust 94 = .ok (.getfield 118, 3) := by decide +kernel
theorem dX6_trust_97 : decode cX6_trust 97 = .ok (.if_icmp .ge 39, 3) := by decide +kernel
theorem dX6_trust_100 : decode cX6_trust 100 = .ok (.aload_n 0, 1) := by decide +kernel
theorem dX6_trust_101 : decode cX6_trust 101 = .ok (.getfield 84, 3) := by decide +kernel
theorem dX6_trust_104 : decode cX6_trust 104 = .ok (.iload 5, 2) := by decide +kernel
theorem dX6_trust_106 : decode cX6_trust 106 = .ok (.iaload, 1) := by decide +kernel
theorem dX6_trust_107 : decode cX6_trust 107 = .ok (.iconst (-1), 1) := by decide +kernel
theorem dX6_trust_108 : decode cX6_trust 108 = .ok (.if_icmp .ne 22, 3) := by decide +kernel
theorem dX6_trust_111 : decode cX6_trust 111 = .ok (.aload_n 0, 1) := by decide +kernel
theorem dX6_trust_112 : decode cX6_trust 112 = .ok (.iload 4, 2) := by decide +kernel
theorem dX6_trust_114 : decode cX6_trust 114 = .ok (.iload 5, 2) := by decide +kernel
theorem dX6_trust_116 : decode cX6_trust 116 = .ok (.invokevirtual 152, 3) := by decide +kernel
theorem dX6_trust_119 : decode cX6_trust 119 = .ok (.ifCond .eq 11, 3) := by decide +kernel
theorem dX6_trust_122 : decode cX6_trust 122 = .ok (.aload_n 0, 1) := by decide +kernel
theorem dX6_trust_123 : decode cX6_trust 123 = .ok (.getfield 84, 3) := by decide +kernel
theorem dX6_trust_126 : decode cX6_trust 126 = .ok (.iload 5, 2) := by decide +kernel
theorem dX6_trust_128 : decode cX6_trust 128 = .ok (.iload_n 3, 1) := by decide +kernel
theorem dX6_trust_129 : decode cX6_trust 129 = .ok (.iastore, 1) := by decide +kernel
theorem dX6_trust_130 : decode cX6_trust 130 = .ok (.iinc 5 1, 3) := by decide +kernel
theorem dX6_trust_133 : decode cX6_trust 133 = .ok (.goto (-42), 3) := by decide +kernel
theorem dX6_trust_136 : decode cX6_trust 136 = .ok (.iinc 4 1, 3) := by decide +kernel
theorem dX6_trust_139 : decode cX6_trust 139 = .ok (.goto (-76), 3) := by decide +kernel
theorem dX6_trust_142 : decode cX6_trust 142 = .ok (.iinc 3 1, 3) := by decide +kernel
theorem dX6_trust_145 : decode cX6_trust 145 = .ok (.goto (-93), 3) := by decide +kernel
theorem dX6_trust_148 : decode cX6_trust 148 = .ok (.aload_n 0, 1) := by decide +kernel
theorem dX6_trust_149 : decode cX6_trust 149 = .ok (.getfield 84, 3) := by decide +kernel
theorem dX6_trust_152 : decode cX6_trust 152 = .ok (.iload_n 2, 1) := by decide +kernel
theorem dX6_trust_153 : decode cX6_trust 153 = .ok (.iaload, 1) := by decide +kernel
theorem dX6_trust_154 : decode cX6_trust 154 = .ok (.ireturn, 1) := by decide +kernel
set_option maxRecDepth 20000 in
theorem ggX6_sell_X6_isFarm : GoodIn wsX6_sell wsX6_isFarm := goodIn_r _ [8, 9, 10, 11, 7, 12, 13, 14, 15, 16, 17, 18, 19, 20, 21, 22, 23, 24, 25, 26, 27, 28, 29, 30, 31, 32, 33, 34, 35, 36, 37, 38, 39, 40, 41] (by decide +kernel) (by decide +kernel)
set_option maxRecDepth 20000 in
theorem gX6_sell_X6_isFarm : GoodIn wsX6_sell (wsV RX6 121 RX6 yX6_isFarm wsX6_isFarm) := goodIn_app (goodIn_of _ (by decide +kernel)) ggX6_sell_X6_isFarm
set_option maxRecDepth 20000 in
theorem ggX6_sell_X6_lies : GoodIn wsX6_sell wsX6_lies := goodIn_r _ [12] (by decide +kernel) (by decide +kernel)
set_option maxRecDepth 20000 in
theorem gX6_sell_X6_lies : GoodIn wsX6_sell (va_wsS RX6 99 yX6_lies wsX6_lies) := goodIn_app (goodIn_of _ (by decide +kernel)) ggX6_sell_X6_lies
theorem dX6_sell_0 : decode cX6_sell 0 = .ok (.aload_n 0, 1) := by decide +kernel
theorem dX6_sell_1 : decode cX6_sell 1 = .ok (.iload_n 1, 1) := by decide +kernel
theorem dX6_sell_2 : decode cX6_sell 2 = .ok (.invokevirtual 121, 3) := by decide +kernel
theorem dX6_sell_5 : decode cX6_sell 5 = .ok (.ifCond .eq 23, 3) := by decide +kernel
theorem dX6_sell_8 : decode cX6_sell 8 = .ok (.iload_n 2, 1) := by decide +kernel
theorem dX6_sell_9 : decode cX6_sell 9 = .ok (.iconst 1, 1) := by decide +kernel
theorem dX6_sell_10 : decode cX6_sell 10 = .ok (.sipush 10000, 3) := by decide +kernel
theorem dX6_sell_13 : decode cX6_sell 13 = .ok (.invokestatic 99, 3) := by decide +kernel
theorem dX6_sell_16 : decode cX6_sell 16 = .ok (.ifCond .eq 12, 3) := by decide +kernel
theorem dX6_sell_19 : decode cX6_sell 19 = .ok (.aload_n 0, 1) := by decide +kernel
theorem dX6_sell_20 : decode cX6_sell 20 = .ok (.getfield 29, 3) := by decide +kernel
theorem dX6_sell_23 : decode cX6_sell 23 = .ok (.iload_n 1, 1) := by decide +kernel
theorem dX6_sell_24 : decode cX6_sell 24 = .ok (.baload, 1) := by decide +kernel
theorem dX6_sell_25 : decode cX6_sell 25 = .ok (.ifCond .ne 5, 3) := by decide +kernel
theorem dX6_sell_28 : decode cX6_sell 28 = .ok (.iconst 0, 1) := by decide +kernel
theorem dX6_sell_29 : decode cX6_sell 29 = .ok (.ireturn, 1) := by decide +kernel
theorem dX6_sell_30 : decode cX6_sell 30 = .ok (.aload_n 0, 1) := by decide +kernel
theorem dX6_sell_31 : decode cX6_sell 31 = .ok (.getfield 39, 3) := by decide +kernel
theorem dX6_sell_34 : decode cX6_sell 34 = .ok (.iload_n 1, 1) := by decide +kernel
theorem dX6_sell_35 : decode cX6_sell 35 = .ok (.dup2, 1) := by decide +kernel
theorem dX6_sell_36 : decode cX6_sell 36 = .ok (.iaload, 1) := by decide +kernel
theorem dX6_sell_37 : decode cX6_sell 37 = .ok (.iload_n 2, 1) := by decide +kernel
theorem dX6_sell_38 : decode cX6_sell 38 = .ok (.iadd, 1) := by decide +kernel
theorem dX6_sell_39 : decode cX6_sell 39 = .ok (.iastore, 1) := by decide +kernel
theorem dX6_sell_40 : decode cX6_sell 40 = .ok (.aload_n 0, 1) := by decide +kernel
theorem dX6_sell_41 : decode cX6_sell 41 = .ok (.getfield 45, 3) := by decide +kernel
theorem dX6_sell_44 : decode cX6_sell 44 = .ok (.iload_n 1, 1) := by decide +kernel
theorem dX6_sell_45 : decode cX6_sell 45 = .ok (.dup2, 1) := by decide +kernel
theorem dX6_sell_46 : decode cX6_sell 46 = .ok (.iaload, 1) := by decide +kernel
theorem dX6_sell_47 : decode cX6_sell 47 = .ok (.iload_n 2, 1) := by decide +kernel
theorem dX6_sell_48 : decode cX6_sell 48 = .ok (.iadd, 1) := by decide +kernel
theorem dX6_sell_49 : decode cX6_sell 49 = .ok (.iastore, 1) := by decide +kernel
theorem dX6_sell_50 : decode cX6_sell 50 = .ok (.iconst 1, 1) := by decide +kernel
theorem dX6_sell_51 : decode cX6_sell 51 = .ok (.ireturn, 1) := by decide +kernel
theorem dX6_goesOut_0 : decode cX6_goesOut 0 = .ok (.aload_n 0, 1) := by decide +kernel
theorem dX6_goesOut_1 : decode cX6_goesOut 1 = .ok (.getfield 29, 3) := by decide +kernel
theorem dX6_goesOut_4 : decode cX6_goesOut 4 = .ok (.iload_n 1, 1) := by decide +kernel
theorem dX6_goesOut_5 : decode cX6_goesOut 5 = .ok (.iconst 0, 1) := by decide +kernel
theorem dX6_goesOut_6 : decode cX6_goesOut 6 = .ok (.bastore, 1) := by decide +kernel
theorem dX6_goesOut_7 : decode cX6_goesOut 7 = .ok (.aload_n 0, 1) := by decide +kernel
theorem dX6_goesOut_8 : decode cX6_goesOut 8 = .ok (.getfield 33, 3) := by decide +kernel
theorem dX6_goesOut_11 : decode cX6_goesOut 11 = .ok (.iload_n 1, 1) := by decide +kernel
theorem dX6_goesOut_12 : decode cX6_goesOut 12 = .ok (.iconst 0, 1) := by decide +kernel
theorem dX6_goesOut_13 : decode cX6_goesOut 13 = .ok (.iastore, 1) := by decide +kernel
theorem dX6_goesOut_14 : decode cX6_goesOut 14 = .ok (.aload_n 0, 1) := by decide +kernel
theorem dX6_goesOut_15 : decode cX6_goesOut 15 = .ok (.getfield 36, 3) := by decide +kernel
theorem dX6_goesOut_18 : decode cX6_goesOut 18 = .ok (.iload_n 1, 1) := by decide +kernel
theorem dX6_goesOut_19 : decode cX6_goesOut 19 = .ok (.aload_n 0, 1) := by decide +kernel
theorem dX6_goesOut_20 : decode cX6_goesOut 20 = .ok (.getfield 13, 3) := by decide +kernel
theorem dX6_goesOut_23 : decode cX6_goesOut 23 = .ok (.iconst 4, 1) := by decide +kernel
theorem dX6_goesOut_24 : decode cX6_goesOut 24 = .ok (.iaload, 1) := by decide +kernel
theorem dX6_goesOut_25 : decode cX6_goesOut 25 = .ok (.iastore, 1) := by decide +kernel
theorem dX6_goesOut_26 : decode cX6_goesOut 26 = .ok (.return_, 1) := by decide +kernel
set_option maxRecDepth 20000 in
theorem ggX6_goesBy_X6_weighsAt : GoodIn wsX6_goesBy wsX6_weighsAt := goodIn_r _ [11, 12, 13, 14, 15, 10, 16, 17, 18, 19, 20, 21, 22, 23, 24, 33, 34, 35, 36, 37, 38, 39, 40, 41, 42, 43, 44, 45, 46, 47, 48, 49, 50, 51, 52, 53, 54, 55, 56, 57, 58, 59, 60, 61] (by decide +kernel) (by decide +kernel)
set_option maxRecDepth 20000 in
theorem gX6_goesBy_X6_weighsAt : GoodIn wsX6_goesBy (wsV RX6 149 RX6 yX6_weighsAt wsX6_weighsAt) := goodIn_app (goodIn_of _ (by decide +kernel)) ggX6_goesBy_X6_weighsAt
set_option maxRecDepth 20000 in
theorem ggX6_goesBy_X6_breachesAt : GoodIn wsX6_goesBy wsX6_breachesAt := goodIn_r _ [16, 17, 18, 19, 20, 21, 10, 22, 23, 24, 33, 34, 35, 36, 37, 38, 39, 40, 41, 42, 43, 44, 45, 46, 47, 48, 49, 50, 51, 52, 53, 54, 55, 56, 57, 58, 59, 60, 61] (by decide +kernel) (by decide +kernel)
set_option maxRecDepth 20000 in
theorem gX6_goesBy_X6_breachesAt : GoodIn wsX6_goesBy (wsV RX6 146 RX6 yX6_breachesAt wsX6_breachesAt) := goodIn_app (goodIn_of _ (by decide +kernel)) ggX6_goesBy_X6_breachesAt
set_option maxRecDepth 20000 in
theorem ggX6_goesBy_X6_goesOut : GoodIn wsX6_goesBy wsX6_goesOut := goodIn_r _ [28, 6, 5, 3, 4, 33, 34, 35, 36, 37, 38, 39, 40, 41, 42, 43, 44, 45, 46, 47, 48, 49, 50, 51, 52, 53, 54, 55, 56, 57, 58, 59, 60, 61] (by decide +kernel) (by decide +kernel)
set_option maxRecDepth 20000 in
theorem gX6_goesBy_X6_goesOut : GoodIn wsX6_goesBy (wsV RX6 155 RX6 yX6_goesOut wsX6_goesOut) := goodIn_app (goodIn_of _ (by decide +kernel)) ggX6_goesBy_X6_goesOut
set_option maxRecDepth 20000 in
theorem ggX6_goesBy_X6_visitorsOf : GoodIn wsX6_goesBy wsX6_visitorsOf := goodIn_r _ [32, 17, 19, 20, 21, 10, 22, 23, 24, 33, 34, 35, 36, 37, 38, 39, 40, 41, 42, 43, 44, 45, 46, 47, 48, 49, 50, 51, 52, 53, 54, 55, 56, 57, 58, 59, 60, 61] (by decide +kernel) (by decide +kernel)
set_option maxRecDepth 20000 in
theorem gX6_goesBy_X6_visitorsOf : GoodIn wsX6_goesBy (wsV RX6 158 RX6 yX6_visitorsOf wsX6_visitorsOf) := goodIn_app (goodIn_of _ (by decide +kernel)) ggX6_goesBy_X6_visitorsOf
theorem dX6_goesBy_0 : decode cX6_goesBy 0 = .ok (.aload_n 0, 1) := by decide +kernel
theorem dX6_goesBy_1 : decode cX6_goesBy 1 = .ok (.iload_n 1, 1) := by decide +kernel
theorem dX6_goesBy_2 : decode cX6_goesBy 2 = .ok (.invokevirtual 149, 3) := by decide +kernel
theorem dX6_goesBy_5 : decode cX6_goesBy 5 = .ok (.istore_n 2, 1) := by decide +kernel
theorem dX6_goesBy_6 : decode cX6_goesBy 6 = .ok (.aload_n 0, 1) := by decide +kernel
theorem dX6_goesBy_7 : decode cX6_goesBy 7 = .ok (.iload_n 1, 1) := by decide +kernel
theorem dX6_goesBy_8 : decode cX6_goesBy 8 = .ok (.invokevirtual 146, 3) := by decide +kernel
theorem dX6_goesBy_11 : decode cX6_goesBy 11 = .ok (.ifCond .eq 18, 3) := by decide +kernel
theorem dX6_goesBy_14 : decode cX6_goesBy 14 = .ok (.aload_n 0, 1) := by decide +kernel
theorem dX6_goesBy_15 : decode cX6_goesBy 15 = .ok (.getfield 42, 3) := by decide +kernel
theorem dX6_goesBy_18 : decode cX6_goesBy 18 = .ok (.iload_n 1, 1) := by decide +kernel
theorem dX6_goesBy_19 : decode cX6_goesBy 19 = .ok (.dup2, 1) := by decide +kernel
theorem dX6_goesBy_20 : decode cX6_goesBy 20 = .ok (.iaload, 1) := by decide +kernel
theorem dX6_goesBy_21 : decode cX6_goesBy 21 = .ok (.aload_n 0, 1) := by decide +kernel
theorem dX6_goesBy_22 : decode cX6_goesBy 22 = .ok (.getfield 45, 3) := by decide +kernel
theorem dX6_goesBy_25 : decode cX6_goesBy 25 = .ok (.iload_n 1, 1) := by decide +kernel
theorem dX6_goesBy_26 : decode cX6_goesBy 26 = .ok (.iaload, 1) := by decide +kernel
theorem dX6_goesBy_27 : decode cX6_goesBy 27 = .ok (.iadd, 1) := by decide +kernel
theorem dX6_goesBy_28 : decode cX6_goesBy 28 = .ok (.iastore, 1) := by decide +kernel
theorem dX6_goesBy_29 : decode cX6_goesBy 29 = .ok (.aload_n 0, 1) := by decide +kernel
theorem dX6_goesBy_30 : decode cX6_goesBy 30 = .ok (.getfield 36, 3) := by decide +kernel
theorem dX6_goesBy_33 : decode cX6_goesBy 33 = .ok (.iload_n 1, 1) := by decide +kernel
theorem dX6_goesBy_34 : decode cX6_goesBy 34 = .ok (.iaload, 1) := by decide +kernel
theorem dX6_goesBy_35 : decode cX6_goesBy 35 = .ok (.ifCond .le 14, 3) := by decide +kernel
theorem dX6_goesBy_38 : decode cX6_goesBy 38 = .ok (.aload_n 0, 1) := by decide +kernel
theorem dX6_goesBy_39 : decode cX6_goesBy 39 = .ok (.getfield 36, 3) := by decide +kernel
theorem dX6_goesBy_42 : decode cX6_goesBy 42 = .ok (.iload_n 1, 1) := by decide +kernel
theorem dX6_goesBy_43 : decode cX6_goesBy 43 = .ok (.dup2, 1) := by decide +kernel
theorem dX6_goesBy_44 : decode cX6_goesBy 44 = .ok (.iaload, 1) := by decide +kernel
theorem dX6_goesBy_45 : decode cX6_goesBy 45 = .ok (.iconst 1, 1) := by decide +kernel
theorem dX6_goesBy_46 : decode cX6_goesBy 46 = .ok (.isub, 1) := by decide +kernel
theorem dX6_goesBy_47 : decode cX6_goesBy 47 = .ok (.iastore, 1) := by decide +kernel
theorem dX6_goesBy_48 : decode cX6_goesBy 48 = .ok (.return_, 1) := by decide +kernel
theorem dX6_goesBy_49 : decode cX6_goesBy 49 = .ok (.iload_n 2, 1) := by decide +kernel
theorem dX6_goesBy_50 : decode cX6_goesBy 50 = .ok (.aload_n 0, 1) := by decide +kernel
theorem dX6_goesBy_51 : decode cX6_goesBy 51 = .ok (.getfield 13, 3) := by decide +kernel
theorem dX6_goesBy_54 : decode cX6_goesBy 54 = .ok (.iconst 3, 1) := by decide +kernel
theorem dX6_goesBy_55 : decode cX6_goesBy 55 = .ok (.iaload, 1) := by decide +kernel
theorem dX6_goesBy_56 : decode cX6_goesBy 56 = .ok (.if_icmp .lt 9, 3) := by decide +kernel
theorem dX6_goesBy_59 : decode cX6_goesBy 59 = .ok (.aload_n 0, 1) := by decide +kernel
theorem dX6_goesBy_60 : decode cX6_goesBy 60 = .ok (.iload_n 1, 1) := by decide +kernel
theorem dX6_goesBy_61 : decode cX6_goesBy 61 = .ok (.invokevirtual 155, 3) := by decide +kernel
theorem dX6_goesBy_64 : decode cX6_goesBy 64 = .ok (.return_, 1) := by decide +kernel
theorem dX6_goesBy_65 : decode cX6_goesBy 65 = .ok (.aload_n 0, 1) := by decide +kernel
theorem dX6_goesBy_66 : decode cX6_goesBy 66 = .ok (.getfield 33, 3) := by decide +kernel
theorem dX6_goesBy_69 : decode cX6_goesBy 69 = .ok (.iload_n 1, 1) := by decide +kernel
theorem dX6_goesBy_70 : decode cX6_goesBy 70 = .ok (.iload_n 2, 1) := by decide +kernel
theorem dX6_goesBy_71 : decode cX6_goesBy 71 = .ok (.aload_n 0, 1) := by decide +kernel
theorem dX6_goesBy_72 : decode cX6_goesBy 72 = .ok (.getfield 13, 3) := by decide +kernel
theorem dX6_goesBy_75 : decode cX6_goesBy 75 = .ok (.iconst 2, 1) := by decide +kernel
theorem dX6_goesBy_76 : decode cX6_goesBy 76 = .ok (.iaload, 1) := by decide +kernel
theorem dX6_goesBy_77 : decode cX6_goesBy 77 = .ok (.if_icmp .lt 14, 3) := by decide +kernel
theorem dX6_goesBy_80 : decode cX6_goesBy 80 = .ok (.aload_n 0, 1) := by decide +kernel
theorem dX6_goesBy_81 : decode cX6_goesBy 81 = .ok (.getfield 33, 3) := by decide +kernel
theorem dX6_goesBy_84 : decode cX6_goesBy 84 = .ok (.iload_n 1, 1) := by decide +kernel
theorem dX6_goesBy_85 : decode cX6_goesBy 85 = .ok (.iaload, 1) := by decide +kernel
theorem dX6_goesBy_86 : decode cX6_goesBy 86 = .ok (.iconst 1, 1) := by decide +kernel
theorem dX6_goesBy_87 : decode cX6_goesBy 87 = .ok (.iadd, 1) := by decide +kernel
theorem dX6_goesBy_88 : decode cX6_goesBy 88 = .ok (.goto 24, 3) := by decide +kernel
theorem dX6_goesBy_91 : decode cX6_goesBy 91 = .ok (.aload_n 0, 1) := by decide +kernel
theorem dX6_goesBy_92 : decode cX6_goesBy 92 = .ok (.getfield 33, 3) := by decide +kernel
theorem dX6_goesBy_95 : decode cX6_goesBy 95 = .ok (.iload_n 1, 1) := by decide +kernel
theorem dX6_goesBy_96 : decode cX6_goesBy 96 = .ok (.iaload, 1) := by decide +kernel
theorem dX6_goesBy_97 : decode cX6_goesBy 97 = .ok (.ifCond .le 14, 3) := by decide +kernel
theorem dX6_goesBy_100 : decode cX6_goesBy 100 = .ok (.aload_n 0, 1) := by decide +kernel
theorem dX6_goesBy_101 : decode cX6_goesBy 101 = .ok (.getfield 33, 3) := by decide +kernel
theorem dX6_goesBy_104 : decode cX6_goesBy 104 = .ok (.iload_n 1, 1) := by decide +kernel
theorem dX6_goesBy_105 : decode cX6_goesBy 105 = .ok (.iaload, 1) := by decide +kernel
theorem dX6_goesBy_106 : decode cX6_goesBy 106 = .ok (.iconst 1, 1) := by decide +kernel
theorem dX6_goesBy_107 : decode cX6_goesBy 107 = .ok (.isub, 1) := by decide +kernel
theorem dX6_goesBy_108 : decode cX6_goesBy 108 = .ok (.goto 4, 3) := by decide +kernel
theorem dX6_goesBy_111 : decode cX6_goesBy 111 = .ok (.iconst 0, 1) := by decide +kernel
theorem dX6_goesBy_112 : decode cX6_goesBy 112 = .ok (.iastore, 1) := by decide +kernel
theorem dX6_goesBy_113 : decode cX6_goesBy 113 = .ok (.aload_n 0, 1) := by decide +kernel
theorem dX6_goesBy_114 : decode cX6_goesBy 114 = .ok (.getfield 33, 3) := by decide +kernel
theorem dX6_goesBy_117 : decode cX6_goesBy 117 = .ok (.iload_n 1, 1) := by decide +kernel
theorem dX6_goesBy_118 : decode cX6_goesBy 118 = .ok (.iaload, 1) := by decide +kernel
theorem dX6_goesBy_119 : decode cX6_goesBy 119 = .ok (.iconst 3, 1) := by decide +kernel
theorem dX6_goesBy_120 : decode cX6_goesBy 120 = .ok (.if_icmp .ne 11, 3) := by decide +kernel
theorem dX6_goesBy_123 : decode cX6_goesBy 123 = .ok (.aload_n 0, 1) := by decide +kernel
theorem dX6_goesBy_124 : decode cX6_goesBy 124 = .ok (.iload_n 1, 1) := by decide +kernel
theorem dX6_goesBy_125 : decode cX6_goesBy 125 = .ok (.invokevirtual 155, 3) := by decide +kernel
theorem dX6_goesBy_128 : decode cX6_goesBy 128 = .ok (.goto 23, 3) := by decide +kernel
theorem dX6_goesBy_131 : decode cX6_goesBy 131 = .ok (.aload_n 0, 1) := by decide +kernel
theorem dX6_goesBy_132 : decode cX6_goesBy 132 = .ok (.getfield 29, 3) := by decide +kernel
theorem dX6_goesBy_135 : decode cX6_goesBy 135 = .ok (.iload_n 1, 1) := by decide +kernel
theorem dX6_goesBy_136 : decode cX6_goesBy 136 = .ok (.aload_n 0, 1) := by decide +kernel
theorem dX6_goesBy_137 : decode cX6_goesBy 137 = .ok (.iload_n 1, 1) := by decide +kernel
theorem dX6_goesBy_138 : decode cX6_goesBy 138 = .ok (.invokevirtual 158, 3) := by decide +kernel
theorem dX6_goesBy_141 : decode cX6_goesBy 141 = .ok (.iconst 1, 1) := by decide +kernel
theorem dX6_goesBy_142 : decode cX6_goesBy 142 = .ok (.if_icmp .le 7, 3) := by decide +kernel
theorem dX6_goesBy_145 : decode cX6_goesBy 145 = .ok (.iconst 1, 1) := by decide +kernel
theorem dX6_goesBy_146 : decode cX6_goesBy 146 = .ok (.goto 4, 3) := by decide +kernel
theorem dX6_goesBy_149 : decode cX6_goesBy 149 = .ok (.iconst 0, 1) := by decide +kernel
theorem dX6_goesBy_150 : decode cX6_goesBy 150 = .ok (.bastore, 1) := by decide +kernel
theorem dX6_goesBy_151 : decode cX6_goesBy 151 = .ok (.return_, 1) := by decide +kernel
set_option maxRecDepth 20000 in
theorem ggX6_year_X6_goesBy : GoodIn wsX6_year wsX6_goesBy := goodIn_r _ [11, 12, 4, 13, 14, 15, 16, 17, 18, 19, 10, 20, 21, 22, 23, 24, 25, 3, 26, 27, 28, 29, 30, 1, 6, 31, 32, 33, 34, 35, 36, 37, 38, 39, 40, 41, 42, 43, 44, 45, 46, 47, 48, 49, 50, 51, 52, 53, 54, 55, 56, 57, 58, 59, 60, 61, 62, 63, 64, 65, 66, 67] (by decide +kernel) (by decide +kernel)
set_option maxRecDepth 20000 in
theorem gX6_year_X6_goesBy : GoodIn wsX6_year (wsV RX6 164 RX6 yX6_goesBy wsX6_goesBy) := goodIn_app (goodIn_of _ (by decide +kernel)) ggX6_year_X6_goesBy
theorem dX6_year_0 : decode cX6_year 0 = .ok (.aload_n 0, 1) := by decide +kernel
theorem dX6_year_1 : decode cX6_year 1 = .ok (.getfield 135, 3) := by decide +kernel
theorem dX6_year_4 : decode cX6_year 4 = .ok (.ifCond .eq 13, 3) := by decide +kernel
theorem dX6_year_7 : decode cX6_year 7 = .ok (.aload_n 0, 1) := by decide +kernel
theorem dX6_year_8 : decode cX6_year 8 = .ok (.getfield 161, 3) := by decide +kernel
theorem dX6_year_11 : decode cX6_year 11 = .ok (.sipush 500, 3) := by decide +kernel
theorem dX6_year_14 : decode cX6_year 14 = .ok (.if_icmp .ne 5, 3) := by decide +kernel
theorem dX6_year_17 : decode cX6_year 17 = .ok (.iconst (-1), 1) := by decide +kernel
theorem dX6_year_18 : decode cX6_year 18 = .ok (.ireturn, 1) := by decide +kernel
theorem dX6_year_19 : decode cX6_year 19 = .ok (.iconst 0, 1) := by decide +kernel
theorem dX6_year_20 : decode cX6_year 20 = .ok (.istore_n 1, 1) := by decide +kernel
theorem dX6_year_21 : decode cX6_year 21 = .ok (.iload_n 1, 1) := by decide +kernel
theorem dX6_year_22 : decode cX6_year 22 = .ok (.aload_n 0, 1) := by decide +kernel
theorem dX6_year_23 : decode cX6_year 23 = .ok (.getfield 118, 3) := by decide +kernel
theorem dX6_year_26 : decode cX6_year 26 = .ok (.if_icmp .ge 14, 3) := by decide +kernel
theorem dX6_year_29 : decode cX6_year 29 = .ok (.aload_n 0, 1) := by decide +kernel
theorem dX6_year_30 : decode cX6_year 30 = .ok (.iload_n 1, 1) := by decide +kernel
theorem dX6_year_31 : decode cX6_year 31 = .ok (.invokevirtual 164, 3) := by decide +kernel
theorem dX6_year_34 : decode cX6_year 34 = .ok (.iinc 1 1, 3) := by decide +kernel
theorem dX6_year_37 : decode cX6_year 37 = .ok (.goto (-16), 3) := by decide +kernel
theorem dX6_year_40 : decode cX6_year 40 = .ok (.iconst 0, 1) := by decide +kernel
theorem dX6_year_41 : decode cX6_year 41 = .ok (.istore_n 1, 1) := by decide +kernel
theorem dX6_year_42 : decode cX6_year 42 = .ok (.iload_n 1, 1) := by decide +kernel
theorem dX6_year_43 : decode cX6_year 43 = .ok (.aload_n 0, 1) := by decide +kernel
theorem dX6_year_44 : decode cX6_year 44 = .ok (.getfield 118, 3) := by decide +kernel
theorem dX6_year_47 : decode cX6_year 47 = .ok (.if_icmp .ge 16, 3) := by decide +kernel
theorem dX6_year_50 : decode cX6_year 50 = .ok (.aload_n 0, 1) := by decide +kernel
theorem dX6_year_51 : decode cX6_year 51 = .ok (.getfield 45, 3) := by decide +kernel
theorem dX6_year_54 : decode cX6_year 54 = .ok (.iload_n 1, 1) := by decide +kernel
theorem dX6_year_55 : decode cX6_year 55 = .ok (.iconst 0, 1) := by decide +kernel
theorem dX6_year_56 : decode cX6_year 56 = .ok (.iastore, 1) := by decide +kernel
theorem dX6_year_57 : decode cX6_year 57 = .ok (.iinc 1 1, 3) := by decide +kernel
theorem dX6_year_60 : decode cX6_year 60 = .ok (.goto (-18), 3) := by decide +kernel
theorem dX6_year_63 : decode cX6_year 63 = .ok (.iconst 0, 1) := by decide +kernel
theorem dX6_year_64 : decode cX6_year 64 = .ok (.istore_n 1, 1) := by decide +kernel
theorem dX6_year_65 : decode cX6_year 65 = .ok (.iload_n 1, 1) := by decide +kernel
theorem dX6_year_66 : decode cX6_year 66 = .ok (.bipush 100, 2) := by decide +kernel
theorem dX6_year_68 : decode cX6_year 68 = .ok (.if_icmp .ge 21, 3) := by decide +kernel
theorem dX6_year_71 : decode cX6_year 71 = .ok (.aload_n 0, 1) := by decide +kernel
theorem dX6_year_72 : decode cX6_year 72 = .ok (.getfield 54, 3) := by decide +kernel
theorem dX6_year_75 : decode cX6_year 75 = .ok (.iload_n 1, 1) := by decide +kernel
theorem dX6_year_76 : decode cX6_year 76 = .ok (.aload_n 0, 1) := by decide +kernel
theorem dX6_year_77 : decode cX6_year 77 = .ok (.getfield 51, 3) := by decide +kernel
end
section
theorem dX6_year_80 : decode cX6_year 80 = .ok (.iload_n 1, 1) := by decide +kernel
theorem dX6_year_81 : decode cX6_year 81 = .ok (.baload, 1) := by decide +kernel
theorem dX6_year_82 : decode cX6_year 82 = .ok (.bastore, 1) := by decide +kernel
theorem dX6_year_83 : decode cX6_year 83 = .ok (.iinc 1 1, 3) := by decide +kernel
theorem dX6_year_86 : decode cX6_year 86 = .ok (.goto (-21), 3) := by decide +kernel
theorem dX6_year_89 : decode cX6_year 89 = .ok (.aload_n 0, 1) := by decide +kernel
theorem dX6_year_90 : decode cX6_year 90 = .ok (.iconst 0, 1) := by decide +kernel
theorem dX6_year_91 : decode cX6_year 91 = .ok (.putfield 135, 3) := by decide +kernel
theorem dX6_year_94 : decode cX6_year 94 = .ok (.aload_n 0, 1) := by decide +kernel
theorem dX6_year_95 : decode cX6_year 95 = .ok (.dup, 1) := by decide +kernel
theorem dX6_year_96 : decode cX6_year 96 = .ok (.getfield 161, 3) := by decide +kernel
theorem dX6_year_99 : decode cX6_year 99 = .ok (.iconst 1, 1) := by decide +kernel
theorem dX6_year_100 : decode cX6_year 100 = .ok (.iadd, 1) := by decide +kernel
theorem dX6_year_101 : decode cX6_year 101 = .ok (.putfield 161, 3) := by decide +kernel
theorem dX6_year_104 : decode cX6_year 104 = .ok (.aload_n 0, 1) := by decide +kernel
theorem dX6_year_105 : decode cX6_year 105 = .ok (.getfield 161, 3) := by decide +kernel
theorem dX6_year_108 : decode cX6_year 108 = .ok (.ireturn, 1) := by decide +kernel
set_option maxRecDepth 20000 in
theorem ggX6_sealed_X6_lies : GoodIn wsX6_sealed wsX6_lies := goodIn_r _ [8] (by decide +kernel) (by decide +kernel)
set_option maxRecDepth 20000 in
theorem gX6_sealed_X6_lies : GoodIn wsX6_sealed (va_wsS RX6 99 yX6_lies wsX6_lies) := goodIn_app (goodIn_of _ (by decide +kernel)) ggX6_sealed_X6_lies
theorem dX6_sealed_0 : decode cX6_sealed 0 = .ok (.iload_n 1, 1) := by decide +kernel
theorem dX6_sealed_1 : decode cX6_sealed 1 = .ok (.iconst 0, 1) := by decide +kernel
theorem dX6_sealed_2 : decode cX6_sealed 2 = .ok (.iconst 3, 1) := by decide +kernel
theorem dX6_sealed_3 : decode cX6_sealed 3 = .ok (.invokestatic 99, 3) := by decide +kernel
theorem dX6_sealed_6 : decode cX6_sealed 6 = .ok (.ifCond .ne 5, 3) := by decide +kernel
theorem dX6_sealed_9 : decode cX6_sealed 9 = .ok (.iconst (-1), 1) := by decide +kernel
theorem dX6_sealed_10 : decode cX6_sealed 10 = .ok (.ireturn, 1) := by decide +kernel
theorem dX6_sealed_11 : decode cX6_sealed 11 = .ok (.iconst 0, 1) := by decide +kernel
theorem dX6_sealed_12 : decode cX6_sealed 12 = .ok (.istore_n 2, 1) := by decide +kernel
theorem dX6_sealed_13 : decode cX6_sealed 13 = .ok (.iconst 0, 1) := by decide +kernel
theorem dX6_sealed_14 : decode cX6_sealed 14 = .ok (.istore_n 3, 1) := by decide +kernel
theorem dX6_sealed_15 : decode cX6_sealed 15 = .ok (.iconst 0, 1) := by decide +kernel
theorem dX6_sealed_16 : decode cX6_sealed 16 = .ok (.istore 4, 2) := by decide +kernel
theorem dX6_sealed_18 : decode cX6_sealed 18 = .ok (.iload 4, 2) := by decide +kernel
theorem dX6_sealed_20 : decode cX6_sealed 20 = .ok (.aload_n 0, 1) := by decide +kernel
theorem dX6_sealed_21 : decode cX6_sealed 21 = .ok (.getfield 118, 3) := by decide +kernel
theorem dX6_sealed_24 : decode cX6_sealed 24 = .ok (.if_icmp .ge 44, 3) := by decide +kernel
theorem dX6_sealed_27 : decode cX6_sealed 27 = .ok (.aload_n 0, 1) := by decide +kernel
theorem dX6_sealed_28 : decode cX6_sealed 28 = .ok (.getfield 23, 3) := by decide +kernel
theorem dX6_sealed_31 : decode cX6_sealed 31 = .ok (.iload 4, 2) := by decide +kernel
theorem dX6_sealed_33 : decode cX6_sealed 33 = .ok (.iaload, 1) := by decide +kernel
theorem dX6_sealed_34 : decode cX6_sealed 34 = .ok (.iload_n 1, 1) := by decide +kernel
theorem dX6_sealed_35 : decode cX6_sealed 35 = .ok (.if_icmp .eq 6, 3) := by decide +kernel
theorem dX6_sealed_38 : decode cX6_sealed 38 = .ok (.goto 24, 3) := by decide +kernel
theorem dX6_sealed_41 : decode cX6_sealed 41 = .ok (.iinc 2 1, 3) := by decide +kernel
theorem dX6_sealed_44 : decode cX6_sealed 44 = .ok (.iload_n 3, 1) := by decide +kernel
theorem dX6_sealed_45 : decode cX6_sealed 45 = .ok (.aload_n 0, 1) := by decide +kernel
theorem dX6_sealed_46 : decode cX6_sealed 46 = .ok (.getfield 29, 3) := by decide +kernel
theorem dX6_sealed_49 : decode cX6_sealed 49 = .ok (.iload 4, 2) := by decide +kernel
theorem dX6_sealed_51 : decode cX6_sealed 51 = .ok (.baload, 1) := by decide +kernel
theorem dX6_sealed_52 : decode cX6_sealed 52 = .ok (.ifCond .eq 7, 3) := by decide +kernel
theorem dX6_sealed_55 : decode cX6_sealed 55 = .ok (.iconst 1, 1) := by decide +kernel
theorem dX6_sealed_56 : decode cX6_sealed 56 = .ok (.goto 4, 3) := by decide +kernel
theorem dX6_sealed_59 : decode cX6_sealed 59 = .ok (.iconst 0, 1) := by decide +kernel
theorem dX6_sealed_60 : decode cX6_sealed 60 = .ok (.iadd, 1) := by decide +kernel
theorem dX6_sealed_61 : decode cX6_sealed 61 = .ok (.istore_n 3, 1) := by decide +kernel
theorem dX6_sealed_62 : decode cX6_sealed 62 = .ok (.iinc 4 1, 3) := by decide +kernel
theorem dX6_sealed_65 : decode cX6_sealed 65 = .ok (.goto (-47), 3) := by decide +kernel
theorem dX6_sealed_68 : decode cX6_sealed 68 = .ok (.iload_n 2, 1) := by decide +kernel
theorem dX6_sealed_69 : decode cX6_sealed 69 = .ok (.ifCond .le 22, 3) := by decide +kernel
theorem dX6_sealed_72 : decode cX6_sealed 72 = .ok (.bipush 100, 2) := by decide +kernel
theorem dX6_sealed_74 : decode cX6_sealed 74 = .ok (.iload_n 3, 1) := by decide +kernel
theorem dX6_sealed_75 : decode cX6_sealed 75 = .ok (.imul, 1) := by decide +kernel
theorem dX6_sealed_76 : decode cX6_sealed 76 = .ok (.aload_n 0, 1) := by decide +kernel
theorem dX6_sealed_77 : decode cX6_sealed 77 = .ok (.getfield 13, 3) := by decide +kernel
theorem dX6_sealed_80 : decode cX6_sealed 80 = .ok (.iconst 5, 1) := by decide +kernel
theorem dX6_sealed_81 : decode cX6_sealed 81 = .ok (.iaload, 1) := by decide +kernel
theorem dX6_sealed_82 : decode cX6_sealed 82 = .ok (.iload_n 2, 1) := by decide +kernel
theorem dX6_sealed_83 : decode cX6_sealed 83 = .ok (.imul, 1) := by decide +kernel
theorem dX6_sealed_84 : decode cX6_sealed 84 = .ok (.if_icmp .lt 7, 3) := by decide +kernel
theorem dX6_sealed_87 : decode cX6_sealed 87 = .ok (.iconst 1, 1) := by decide +kernel
theorem dX6_sealed_88 : decode cX6_sealed 88 = .ok (.goto 4, 3) := by decide +kernel
theorem dX6_sealed_91 : decode cX6_sealed 91 = .ok (.iconst 0, 1) := by decide +kernel
theorem dX6_sealed_92 : decode cX6_sealed 92 = .ok (.ireturn, 1) := by decide +kernel
set_option maxRecDepth 20000 in
theorem ggX6_look_X6_isFarm : GoodIn wsX6_look wsX6_isFarm := goodIn_r _ [14, 9, 15, 16, 13, 17, 28, 29, 30, 31, 32, 33, 34, 35, 36, 37, 38, 39, 40, 41, 42, 43, 44, 45, 46, 47, 48, 49, 50, 51, 52, 53, 54, 55, 56] (by decide +kernel) (by decide +kernel)
set_option maxRecDepth 20000 in
theorem gX6_look_X6_isFarm : GoodIn wsX6_look (wsV RX6 121 RX6 yX6_isFarm wsX6_isFarm) := goodIn_app (goodIn_of _ (by decide +kernel)) ggX6_look_X6_isFarm
set_option maxRecDepth 20000 in
theorem ggX6_look_X6_visitorsOf : GoodIn wsX6_look wsX6_visitorsOf := goodIn_r _ [21, 9, 22, 23, 24, 13, 25, 26, 27, 28, 29, 30, 31, 32, 33, 34, 35, 36, 37, 38, 39, 40, 41, 42, 43, 44, 45, 46, 47, 48, 49, 50, 51, 52, 53, 54, 55, 56] (by decide +kernel) (by decide +kernel)
set_option maxRecDepth 20000 in
theorem gX6_look_X6_visitorsOf : GoodIn wsX6_look (wsV RX6 158 RX6 yX6_visitorsOf wsX6_visitorsOf) := goodIn_app (goodIn_of _ (by decide +kernel)) ggX6_look_X6_visitorsOf
set_option maxRecDepth 20000 in
theorem ggX6_look_X6_isVisit : GoodIn wsX6_look wsX6_isVisit := goodIn_r _ [25, 26, 27, 28, 29, 30, 31, 32, 33, 34, 35, 36, 37, 38, 39, 40, 41, 42, 43, 44, 45, 46, 47, 48, 49, 50, 51, 52, 53, 54, 55, 56] (by decide +kernel) (by decide +kernel)
set_option maxRecDepth 20000 in
theorem gX6_look_X6_isVisit : GoodIn wsX6_look (wsV RX6 143 RX6 yX6_isVisit wsX6_isVisit) := goodIn_app (goodIn_of _ (by decide +kernel)) ggX6_look_X6_isVisit
theorem dX6_look_0 : decode cX6_look 0 = .ok (.aload_n 0, 1) := by decide +kernel
theorem dX6_look_1 : decode cX6_look 1 = .ok (.iload_n 1, 1) := by decide +kernel
theorem dX6_look_2 : decode cX6_look 2 = .ok (.invokevirtual 121, 3) := by decide +kernel
theorem dX6_look_5 : decode cX6_look 5 = .ok (.ifCond .ne 5, 3) := by decide +kernel
theorem dX6_look_8 : decode cX6_look 8 = .ok (.iconst (-1), 1) := by decide +kernel
theorem dX6_look_9 : decode cX6_look 9 = .ok (.ireturn, 1) := by decide +kernel
theorem dX6_look_10 : decode cX6_look 10 = .ok (.iload_n 2, 1) := by decide +kernel
theorem dX6_look_11 : decode cX6_look 11 = .ok (.tableswitch 163 0 9 #[53, 60, 67, 82, 89, 96, 103, 110, 117, 123], 53) := by decide +kernel
theorem dX6_look_64 : decode cX6_look 64 = .ok (.aload_n 0, 1) := by decide +kernel
theorem dX6_look_65 : decode cX6_look 65 = .ok (.getfield 20, 3) := by decide +kernel
theorem dX6_look_68 : decode cX6_look 68 = .ok (.iload_n 1, 1) := by decide +kernel
theorem dX6_look_69 : decode cX6_look 69 = .ok (.iaload, 1) := by decide +kernel
theorem dX6_look_70 : decode cX6_look 70 = .ok (.ireturn, 1) := by decide +kernel
theorem dX6_look_71 : decode cX6_look 71 = .ok (.aload_n 0, 1) := by decide +kernel
theorem dX6_look_72 : decode cX6_look 72 = .ok (.getfield 23, 3) := by decide +kernel
theorem dX6_look_75 : decode cX6_look 75 = .ok (.iload_n 1, 1) := by decide +kernel
theorem dX6_look_76 : decode cX6_look 76 = .ok (.iaload, 1) := by decide +kernel
theorem dX6_look_77 : decode cX6_look 77 = .ok (.ireturn, 1) := by decide +kernel
theorem dX6_look_78 : decode cX6_look 78 = .ok (.aload_n 0, 1) := by decide +kernel
theorem dX6_look_79 : decode cX6_look 79 = .ok (.getfield 29, 3) := by decide +kernel
theorem dX6_look_82 : decode cX6_look 82 = .ok (.iload_n 1, 1) := by decide +kernel
theorem dX6_look_83 : decode cX6_look 83 = .ok (.baload, 1) := by decide +kernel
theorem dX6_look_84 : decode cX6_look 84 = .ok (.ifCond .eq 7, 3) := by decide +kernel
theorem dX6_look_87 : decode cX6_look 87 = .ok (.iconst 1, 1) := by decide +kernel
theorem dX6_look_88 : decode cX6_look 88 = .ok (.goto 4, 3) := by decide +kernel
theorem dX6_look_91 : decode cX6_look 91 = .ok (.iconst 0, 1) := by decide +kernel
theorem dX6_look_92 : decode cX6_look 92 = .ok (.ireturn, 1) := by decide +kernel
theorem dX6_look_93 : decode cX6_look 93 = .ok (.aload_n 0, 1) := by decide +kernel
theorem dX6_look_94 : decode cX6_look 94 = .ok (.getfield 33, 3) := by decide +kernel
theorem dX6_look_97 : decode cX6_look 97 = .ok (.iload_n 1, 1) := by decide +kernel
theorem dX6_look_98 : decode cX6_look 98 = .ok (.iaload, 1) := by decide +kernel
theorem dX6_look_99 : decode cX6_look 99 = .ok (.ireturn, 1) := by decide +kernel
theorem dX6_look_100 : decode cX6_look 100 = .ok (.aload_n 0, 1) := by decide +kernel
theorem dX6_look_101 : decode cX6_look 101 = .ok (.getfield 36, 3) := by decide +kernel
theorem dX6_look_104 : decode cX6_look 104 = .ok (.iload_n 1, 1) := by decide +kernel
theorem dX6_look_105 : decode cX6_look 105 = .ok (.iaload, 1) := by decide +kernel
theorem dX6_look_106 : decode cX6_look 106 = .ok (.ireturn, 1) := by decide +kernel
theorem dX6_look_107 : decode cX6_look 107 = .ok (.aload_n 0, 1) := by decide +kernel
theorem dX6_look_108 : decode cX6_look 108 = .ok (.getfield 39, 3) := by decide +kernel
theorem dX6_look_111 : decode cX6_look 111 = .ok (.iload_n 1, 1) := by decide +kernel
theorem dX6_look_112 : decode cX6_look 112 = .ok (.iaload, 1) := by decide +kernel
theorem dX6_look_113 : decode cX6_look 113 = .ok (.ireturn, 1) := by decide +kernel
theorem dX6_look_114 : decode cX6_look 114 = .ok (.aload_n 0, 1) := by decide +kernel
theorem dX6_look_115 : decode cX6_look 115 = .ok (.getfield 42, 3) := by decide +kernel
theorem dX6_look_118 : decode cX6_look 118 = .ok (.iload_n 1, 1) := by decide +kernel
theorem dX6_look_119 : decode cX6_look 119 = .ok (.iaload, 1) := by decide +kernel
theorem dX6_look_120 : decode cX6_look 120 = .ok (.ireturn, 1) := by decide +kernel
theorem dX6_look_121 : decode cX6_look 121 = .ok (.aload_n 0, 1) := by decide +kernel
theorem dX6_look_122 : decode cX6_look 122 = .ok (.getfield 45, 3) := by decide +kernel
theorem dX6_look_125 : decode cX6_look 125 = .ok (.iload_n 1, 1) := by decide +kernel
theorem dX6_look_126 : decode cX6_look 126 = .ok (.iaload, 1) := by decide +kernel
theorem dX6_look_127 : decode cX6_look 127 = .ok (.ireturn, 1) := by decide +kernel
theorem dX6_look_128 : decode cX6_look 128 = .ok (.aload_n 0, 1) := by decide +kernel
theorem dX6_look_129 : decode cX6_look 129 = .ok (.iload_n 1, 1) := by decide +kernel
theorem dX6_look_130 : decode cX6_look 130 = .ok (.invokevirtual 158, 3) := by decide +kernel
theorem dX6_look_133 : decode cX6_look 133 = .ok (.ireturn, 1) := by decide +kernel
theorem dX6_look_134 : decode cX6_look 134 = .ok (.iconst 0, 1) := by decide +kernel
theorem dX6_look_135 : decode cX6_look 135 = .ok (.istore_n 3, 1) := by decide +kernel
theorem dX6_look_136 : decode cX6_look 136 = .ok (.iconst 0, 1) := by decide +kernel
theorem dX6_look_137 : decode cX6_look 137 = .ok (.istore 4, 2) := by decide +kernel
theorem dX6_look_139 : decode cX6_look 139 = .ok (.iload 4, 2) := by decide +kernel
theorem dX6_look_141 : decode cX6_look 141 = .ok (.aload_n 0, 1) := by decide +kernel
theorem dX6_look_142 : decode cX6_look 142 = .ok (.getfield 118, 3) := by decide +kernel
theorem dX6_look_145 : decode cX6_look 145 = .ok (.if_icmp .ge 27, 3) := by decide +kernel
theorem dX6_look_148 : decode cX6_look 148 = .ok (.iload_n 3, 1) := by decide +kernel
theorem dX6_look_149 : decode cX6_look 149 = .ok (.aload_n 0, 1) := by decide +kernel
theorem dX6_look_150 : decode cX6_look 150 = .ok (.iload_n 1, 1) := by decide +kernel
theorem dX6_look_151 : decode cX6_look 151 = .ok (.iload 4, 2) := by decide +kernel
theorem dX6_look_153 : decode cX6_look 153 = .ok (.invokevirtual 143, 3) := by decide +kernel
theorem dX6_look_156 : decode cX6_look 156 = .ok (.ifCond .eq 7, 3) := by decide +kernel
theorem dX6_look_159 : decode cX6_look 159 = .ok (.iconst 1, 1) := by decide +kernel
theorem dX6_look_160 : decode cX6_look 160 = .ok (.goto 4, 3) := by decide +kernel
theorem dX6_look_163 : decode cX6_look 163 = .ok (.iconst 0, 1) := by decide +kernel
theorem dX6_look_164 : decode cX6_look 164 = .ok (.iadd, 1) := by decide +kernel
theorem dX6_look_165 : decode cX6_look 165 = .ok (.istore_n 3, 1) := by decide +kernel
theorem dX6_look_166 : decode cX6_look 166 = .ok (.iinc 4 1, 3) := by decide +kernel
theorem dX6_look_169 : decode cX6_look 169 = .ok (.goto (-30), 3) := by decide +kernel
theorem dX6_look_172 : decode cX6_look 172 = .ok (.iload_n 3, 1) := by decide +kernel
theorem dX6_look_173 : decode cX6_look 173 = .ok (.ireturn, 1) := by decide +kernel
theorem dX6_look_174 : decode cX6_look 174 = .ok (.iconst (-1), 1) := by decide +kernel
theorem dX6_look_175 : decode cX6_look 175 = .ok (.ireturn, 1) := by decide +kernel
set_option maxRecDepth 20000 in
theorem ggX6_count_X6_lies : GoodIn wsX6_count wsX6_lies := goodIn_r _ [12] (by decide +kernel) (by decide +kernel)
set_option maxRecDepth 20000 in
theorem gX6_count_X6_lies : GoodIn wsX6_count (va_wsS RX6 99 yX6_lies wsX6_lies) := goodIn_app (goodIn_of _ (by decide +kernel)) ggX6_count_X6_lies
set_option maxRecDepth 20000 in
theorem ggX6_count_X6_visitorsOf : GoodIn wsX6_count wsX6_visitorsOf := goodIn_r _ [16, 3, 17, 18, 19, 11, 20, 5, 21, 22, 23, 24, 25, 26, 27, 28, 29, 30, 31, 32, 33, 34, 35, 36, 37, 38, 39, 40, 41, 42, 43, 44, 45, 46, 47, 48, 49, 50] (by decide +kernel) (by decide +kernel)
set_option maxRecDepth 20000 in
theorem gX6_count_X6_visitorsOf : GoodIn wsX6_count (wsV RX6 158 RX6 yX6_visitorsOf wsX6_visitorsOf) := goodIn_app (goodIn_of _ (by decide +kernel)) ggX6_count_X6_visitorsOf
theorem dX6_count_0 : decode cX6_count 0 = .ok (.iload_n 1, 1) := by decide +kernel
theorem dX6_count_1 : decode cX6_count 1 = .ok (.bipush 10, 2) := by decide +kernel
theorem dX6_count_3 : decode cX6_count 3 = .ok (.bipush 15, 2) := by decide +kernel
theorem dX6_count_5 : decode cX6_count 5 = .ok (.invokestatic 99, 3) := by decide +kernel
theorem dX6_count_8 : decode cX6_count 8 = .ok (.ifCond .eq 13, 3) := by decide +kernel
theorem dX6_count_11 : decode cX6_count 11 = .ok (.aload_n 0, 1) := by decide +kernel
theorem dX6_count_12 : decode cX6_count 12 = .ok (.getfield 13, 3) := by decide +kernel
theorem dX6_count_15 : decode cX6_count 15 = .ok (.iload_n 1, 1) := by decide +kernel
theorem dX6_count_16 : decode cX6_count 16 = .ok (.bipush 10, 2) := by decide +kernel
theorem dX6_count_18 : decode cX6_count 18 = .ok (.isub, 1) := by decide +kernel
theorem dX6_count_19 : decode cX6_count 19 = .ok (.iaload, 1) := by decide +kernel
theorem dX6_count_20 : decode cX6_count 20 = .ok (.ireturn, 1) := by decide +kernel
theorem dX6_count_21 : decode cX6_count 21 = .ok (.iload_n 1, 1) := by decide +kernel
theorem dX6_count_22 : decode cX6_count 22 = .ok (.bipush 20, 2) := by decide +kernel
theorem dX6_count_24 : decode cX6_count 24 = .ok (.bipush 27, 2) := by decide +kernel
theorem dX6_count_26 : decode cX6_count 26 = .ok (.invokestatic 99, 3) := by decide +kernel
theorem dX6_count_29 : decode cX6_count 29 = .ok (.ifCond .eq 13, 3) := by decide +kernel
theorem dX6_count_32 : decode cX6_count 32 = .ok (.aload_n 0, 1) := by decide +kernel
theorem dX6_count_33 : decode cX6_count 33 = .ok (.getfield 26, 3) := by decide +kernel
theorem dX6_count_36 : decode cX6_count 36 = .ok (.iload_n 1, 1) := by decide +kernel
theorem dX6_count_37 : decode cX6_count 37 = .ok (.bipush 20, 2) := by decide +kernel
theorem dX6_count_39 : decode cX6_count 39 = .ok (.isub, 1) := by decide +kernel
theorem dX6_count_40 : decode cX6_count 40 = .ok (.iaload, 1) := by decide +kernel
theorem dX6_count_41 : decode cX6_count 41 = .ok (.ireturn, 1) := by decide +kernel
theorem dX6_count_42 : decode cX6_count 42 = .ok (.iconst 0, 1) := by decide +kernel
theorem dX6_count_43 : decode cX6_count 43 = .ok (.istore_n 2, 1) := by decide +kernel
theorem dX6_count_44 : decode cX6_count 44 = .ok (.iload_n 1, 1) := by decide +kernel
theorem dX6_count_45 : decode cX6_count 45 = .ok (.tableswitch 167 0 6 #[43, 48, 53, 66, 92, 127, 162], 43) := by decide +kernel
theorem dX6_count_88 : decode cX6_count 88 = .ok (.aload_n 0, 1) := by decide +kernel
theorem dX6_count_89 : decode cX6_count 89 = .ok (.getfield 118, 3) := by decide +kernel
theorem dX6_count_92 : decode cX6_count 92 = .ok (.ireturn, 1) := by decide +kernel
theorem dX6_count_93 : decode cX6_count 93 = .ok (.aload_n 0, 1) := by decide +kernel
theorem dX6_count_94 : decode cX6_count 94 = .ok (.getfield 161, 3) := by decide +kernel
theorem dX6_count_97 : decode cX6_count 97 = .ok (.ireturn, 1) := by decide +kernel
theorem dX6_count_98 : decode cX6_count 98 = .ok (.aload_n 0, 1) := by decide +kernel
theorem dX6_count_99 : decode cX6_count 99 = .ok (.getfield 135, 3) := by decide +kernel
theorem dX6_count_102 : decode cX6_count 102 = .ok (.ifCond .eq 7, 3) := by decide +kernel
theorem dX6_count_105 : decode cX6_count 105 = .ok (.iconst 1, 1) := by decide +kernel
theorem dX6_count_106 : decode cX6_count 106 = .ok (.goto 4, 3) := by decide +kernel
theorem dX6_count_109 : decode cX6_count 109 = .ok (.iconst 0, 1) := by decide +kernel
theorem dX6_count_110 : decode cX6_count 110 = .ok (.ireturn, 1) := by decide +kernel
theorem dX6_count_111 : decode cX6_count 111 = .ok (.iconst 0, 1) := by decide +kernel
theorem dX6_count_112 : decode cX6_count 112 = .ok (.istore_n 3, 1) := by decide +kernel
theorem dX6_count_113 : decode cX6_count 113 = .ok (.iload_n 3, 1) := by decide +kernel
theorem dX6_count_114 : decode cX6_count 114 = .ok (.aload_n 0, 1) := by decide +kernel
theorem dX6_count_115 : decode cX6_count 115 = .ok (.getfield 118, 3) := by decide +kernel
theorem dX6_count_118 : decode cX6_count 118 = .ok (.if_icmp .ge 17, 3) := by decide +kernel
theorem dX6_count_121 : decode cX6_count 121 = .ok (.iload_n 2, 1) := by decide +kernel
theorem dX6_count_122 : decode cX6_count 122 = .ok (.aload_n 0, 1) := by decide +kernel
theorem dX6_count_123 : decode cX6_count 123 = .ok (.iload_n 3, 1) := by decide +kernel
theorem dX6_count_124 : decode cX6_count 124 = .ok (.invokevirtual 158, 3) := by decide +kernel
theorem dX6_count_127 : decode cX6_count 127 = .ok (.iadd, 1) := by decide +kernel
theorem dX6_count_128 : decode cX6_count 128 = .ok (.istore_n 2, 1) := by decide +kernel
theorem dX6_count_129 : decode cX6_count 129 = .ok (.iinc 3 1, 3) := by decide +kernel
theorem dX6_count_132 : decode cX6_count 132 = .ok (.goto (-19), 3) := by decide +kernel
theorem dX6_count_135 : decode cX6_count 135 = .ok (.iload_n 2, 1) := by decide +kernel
theorem dX6_count_136 : decode cX6_count 136 = .ok (.ireturn, 1) := by decide +kernel
theorem dX6_count_137 : decode cX6_count 137 = .ok (.iconst 0, 1) := by decide +kernel
theorem dX6_count_138 : decode cX6_count 138 = .ok (.istore_n 3, 1) := by decide +kernel
theorem dX6_count_139 : decode cX6_count 139 = .ok (.iload_n 3, 1) := by decide +kernel
theorem dX6_count_140 : decode cX6_count 140 = .ok (.aload_n 0, 1) := by decide +kernel
theorem dX6_count_141 : decode cX6_count 141 = .ok (.getfield 118, 3) := by decide +kernel
theorem dX6_count_144 : decode cX6_count 144 = .ok (.if_icmp .ge 26, 3) := by decide +kernel
theorem dX6_count_147 : decode cX6_count 147 = .ok (.iload_n 2, 1) := by decide +kernel
theorem dX6_count_148 : decode cX6_count 148 = .ok (.aload_n 0, 1) := by decide +kernel
theorem dX6_count_149 : decode cX6_count 149 = .ok (.getfield 29, 3) := by decide +kernel
theorem dX6_count_152 : decode cX6_count 152 = .ok (.iload_n 3, 1) := by decide +kernel
theorem dX6_count_153 : decode cX6_count 153 = .ok (.baload, 1) := by decide +kernel
theorem dX6_count_154 : decode cX6_count 154 = .ok (.ifCond .eq 7, 3) := by decide +kernel
theorem dX6_count_157 : decode cX6_count 157 = .ok (.iconst 1, 1) := by decide +kernel
theorem dX6_count_158 : decode cX6_count 158 = .ok (.goto 4, 3) := by decide +kernel
theorem dX6_count_161 : decode cX6_count 161 = .ok (.iconst 0, 1) := by decide +kernel
theorem dX6_count_162 : decode cX6_count 162 = .ok (.iadd, 1) := by decide +kernel
theorem dX6_count_163 : decode cX6_count 163 = .ok (.istore_n 2, 1) := by decide +kernel
theorem dX6_count_164 : decode cX6_count 164 = .ok (.iinc 3 1, 3) := by decide +kernel
theorem dX6_count_167 : decode cX6_count 167 = .ok (.goto (-28), 3) := by decide +kernel
theorem dX6_count_170 : decode cX6_count 170 = .ok (.iload_n 2, 1) := by decide +kernel
theorem dX6_count_171 : decode cX6_count 171 = .ok (.ireturn, 1) := by decide +kernel
theorem dX6_count_172 : decode cX6_count 172 = .ok (.iconst 0, 1) := by decide +kernel
theorem dX6_count_173 : decode cX6_count 173 = .ok (.istore_n 3, 1) := by decide +kernel
theorem dX6_count_174 : decode cX6_count 174 = .ok (.iload_n 3, 1) := by decide +kernel
theorem dX6_count_175 : decode cX6_count 175 = .ok (.aload_n 0, 1) := by decide +kernel
theorem dX6_count_176 : decode cX6_count 176 = .ok (.getfield 118, 3) := by decide +kernel
theorem dX6_count_179 : decode cX6_count 179 = .ok (.if_icmp .ge 26, 3) := by decide +kernel
theorem dX6_count_182 : decode cX6_count 182 = .ok (.iload_n 2, 1) := by decide +kernel
theorem dX6_count_183 : decode cX6_count 183 = .ok (.aload_n 0, 1) := by decide +kernel
theorem dX6_count_184 : decode cX6_count 184 = .ok (.getfield 36, 3) := by decide +kernel
theorem dX6_count_187 : decode cX6_count 187 = .ok (.iload_n 3, 1) := by decide +kernel
theorem dX6_count_188 : decode cX6_count 188 = .ok (.iaload, 1) := by decide +kernel
theorem dX6_count_189 : decode cX6_count 189 = .ok (.ifCond .le 7, 3) := by decide +kernel
theorem dX6_count_192 : decode cX6_count 192 = .ok (.iconst 1, 1) := by decide +kernel
theorem dX6_count_193 : decode cX6_count 193 = .ok (.goto 4, 3) := by decide +kernel
theorem dX6_count_196 : decode cX6_count 196 = .ok (.iconst 0, 1) := by decide +kernel
theorem dX6_count_197 : decode cX6_count 197 = .ok (.iadd, 1) := by decide +kernel
theorem dX6_count_198 : decode cX6_count 198 = .ok (.istore_n 2, 1) := by decide +kernel
theorem dX6_count_199 : decode cX6_count 199 = .ok (.iinc 3 1, 3) := by decide +kernel
theorem dX6_count_202 : decode cX6_count 202 = .ok (.goto (-28), 3) := by decide +kernel
theorem dX6_count_205 : decode cX6_count 205 = .ok (.iload_n 2, 1) := by decide +kernel
theorem dX6_count_206 : decode cX6_count 206 = .ok (.ireturn, 1) := by decide +kernel
theorem dX6_count_207 : decode cX6_count 207 = .ok (.aload_n 0, 1) := by decide +kernel
theorem dX6_count_208 : decode cX6_count 208 = .ok (.getfield 91, 3) := by decide +kernel
theorem dX6_count_211 : decode cX6_count 211 = .ok (.ireturn, 1) := by decide +kernel
theorem dX6_count_212 : decode cX6_count 212 = .ok (.iconst (-1), 1) := by decide +kernel
theorem dX6_count_213 : decode cX6_count 213 = .ok (.ireturn, 1) := by decide +kernel
theorem dJ11_isValidCodePoint_9a6ad_0 : decode cJ11_isValidCodePoint_9a6ad 0 = .ok (.iload_n 0, 1) := by decide +kernel
theorem dJ11_isValidCodePoint_9a6ad_1 : decode cJ11_isValidCodePoint_9a6ad 1 = .ok (.bipush 16, 2) := by decide +kernel
theorem dJ11_isValidCodePoint_9a6ad_3 : decode cJ11_isValidCodePoint_9a6ad 3 = .ok (.iushr, 1) := by decide +kernel
theorem dJ11_isValidCodePoint_9a6ad_4 : decode cJ11_isValidCodePoint_9a6ad 4 = .ok (.istore_n 1, 1) := by decide +kernel
theorem dJ11_isValidCodePoint_9a6ad_5 : decode cJ11_isValidCodePoint_9a6ad 5 = .ok (.iload_n 1, 1) := by decide +kernel
theorem dJ11_isValidCodePoint_9a6ad_6 : decode cJ11_isValidCodePoint_9a6ad 6 = .ok (.bipush 17, 2) := by decide +kernel
theorem dJ11_isValidCodePoint_9a6ad_8 : decode cJ11_isValidCodePoint_9a6ad 8 = .ok (.if_icmp .ge 7, 3) := by decide +kernel
theorem dJ11_isValidCodePoint_9a6ad_11 : decode cJ11_isValidCodePoint_9a6ad 11 = .ok (.iconst 1, 1) := by decide +kernel
theorem dJ11_isValidCodePoint_9a6ad_12 : decode cJ11_isValidCodePoint_9a6ad 12 = .ok (.goto 4, 3) := by decide +kernel
theorem dJ11_isValidCodePoint_9a6ad_15 : decode cJ11_isValidCodePoint_9a6ad 15 = .ok (.iconst 0, 1) := by decide +kernel
theorem dJ11_isValidCodePoint_9a6ad_16 : decode cJ11_isValidCodePoint_9a6ad 16 = .ok (.ireturn, 1) := by decide +kernel
theorem dJ11_highSurrogate_5068e_0 : decode cJ11_highSurrogate_5068e 0 = .ok (.iload_n 0, 1) := by decide +kernel
theorem dJ11_highSurrogate_5068e_1 : decode cJ11_highSurrogate_5068e 1 = .ok (.bipush 10, 2) := by decide +kernel
theorem dJ11_highSurrogate_5068e_3 : decode cJ11_highSurrogate_5068e 3 = .ok (.iushr, 1) := by decide +kernel
theorem dJ11_highSurrogate_5068e_4 : decode cJ11_highSurrogate_5068e 4 = .ok (.ldc 110, 2) := by decide +kernel
theorem dJ11_highSurrogate_5068e_6 : decode cJ11_highSurrogate_5068e 6 = .ok (.iadd, 1) := by decide +kernel
theorem dJ11_highSurrogate_5068e_7 : decode cJ11_highSurrogate_5068e 7 = .ok (.i2c, 1) := by decide +kernel
theorem dJ11_highSurrogate_5068e_8 : decode cJ11_highSurrogate_5068e 8 = .ok (.ireturn, 1) := by decide +kernel
theorem dJ11_lowSurrogate_5068e_0 : decode cJ11_lowSurrogate_5068e 0 = .ok (.iload_n 0, 1) := by decide +kernel
theorem dJ11_lowSurrogate_5068e_1 : decode cJ11_lowSurrogate_5068e 1 = .ok (.sipush 1023, 3) := by decide +kernel
theorem dJ11_lowSurrogate_5068e_4 : decode cJ11_lowSurrogate_5068e 4 = .ok (.iand, 1) := by decide +kernel
theorem dJ11_lowSurrogate_5068e_5 : decode cJ11_lowSurrogate_5068e 5 = .ok (.ldc 76, 2) := by decide +kernel
theorem dJ11_lowSurrogate_5068e_7 : decode cJ11_lowSurrogate_5068e 7 = .ok (.iadd, 1) := by decide +kernel
theorem dJ11_lowSurrogate_5068e_8 : decode cJ11_lowSurrogate_5068e 8 = .ok (.i2c, 1) := by decide +kernel
theorem dJ11_lowSurrogate_5068e_9 : decode cJ11_lowSurrogate_5068e 9 = .ok (.ireturn, 1) := by decide +kernel
theorem dJ6_bitCount_0f7a4_0 : decode cJ6_bitCount_0f7a4 0 = .ok (.iload_n 0, 1) := by decide +kernel
theorem dJ6_bitCount_0f7a4_1 : decode cJ6_bitCount_0f7a4 1 = .ok (.iload_n 0, 1) := by decide +kernel
theorem dJ6_bitCount_0f7a4_2 : decode cJ6_bitCount_0f7a4 2 = .ok (.iconst 1, 1) := by decide +kernel
theorem dJ6_bitCount_0f7a4_3 : decode cJ6_bitCount_0f7a4 3 = .ok (.iushr, 1) := by decide +kernel
theorem dJ6_bitCount_0f7a4_4 : decode cJ6_bitCount_0f7a4 4 = .ok (.ldc_w 265, 3) := by decide +kernel
theorem dJ6_bitCount_0f7a4_7 : decode cJ6_bitCount_0f7a4 7 = .ok (.iand, 1) := by decide +kernel
theorem dJ6_bitCount_0f7a4_8 : decode cJ6_bitCount_0f7a4 8 = .ok (.isub, 1) := by decide +kernel
theorem dJ6_bitCount_0f7a4_9 : decode cJ6_bitCount_0f7a4 9 = .ok (.istore_n 0, 1) := by decide +kernel
theorem dJ6_bitCount_0f7a4_10 : decode cJ6_bitCount_0f7a4 10 = .ok (.iload_n 0, 1) := by decide +kernel
theorem dJ6_bitCount_0f7a4_11 : decode cJ6_bitCount_0f7a4 11 = .ok (.ldc_w 266, 3) := by decide +kernel
theorem dJ6_bitCount_0f7a4_14 : decode cJ6_bitCount_0f7a4 14 = .ok (.iand, 1) := by decide +kernel
theorem dJ6_bitCount_0f7a4_15 : decode cJ6_bitCount_0f7a4 15 = .ok (.iload_n 0, 1) := by decide +kernel
theorem dJ6_bitCount_0f7a4_16 : decode cJ6_bitCount_0f7a4 16 = .ok (.iconst 2, 1) := by decide +kernel
theorem dJ6_bitCount_0f7a4_17 : decode cJ6_bitCount_0f7a4 17 = .ok (.iushr, 1) := by decide +kernel
theorem dJ6_bitCount_0f7a4_18 : decode cJ6_bitCount_0f7a4 18 = .ok (.ldc_w 266, 3) := by decide +kernel
theorem dJ6_bitCount_0f7a4_21 : decode cJ6_bitCount_0f7a4 21 = .ok (.iand, 1) := by decide +kernel
theorem dJ6_bitCount_0f7a4_22 : decode cJ6_bitCount_0f7a4 22 = .ok (.iadd, 1) := by decide +kernel
theorem dJ6_bitCount_0f7a4_23 : decode cJ6_bitCount_0f7a4 23 = .ok (.istore_n 0, 1) := by decide +kernel
theorem dJ6_bitCount_0f7a4_24 : decode cJ6_bitCount_0f7a4 24 = .ok (.iload_n 0, 1) := by decide +kernel
theorem dJ6_bitCount_0f7a4_25 : decode cJ6_bitCount_0f7a4 25 = .ok (.iload_n 0, 1) := by decide +kernel
theorem dJ6_bitCount_0f7a4_26 : decode cJ6_bitCount_0f7a4 26 = .ok (.iconst 4, 1) := by decide +kernel
theorem dJ6_bitCount_0f7a4_27 : decode cJ6_bitCount_0f7a4 27 = .ok (.iushr, 1) := by decide +kernel
theorem dJ6_bitCount_0f7a4_28 : decode cJ6_bitCount_0f7a4 28 = .ok (.iadd, 1) := by decide +kernel
theorem dJ6_bitCount_0f7a4_29 : decode cJ6_bitCount_0f7a4 29 = .ok (.ldc_w 267, 3) := by decide +kernel
theorem dJ6_bitCount_0f7a4_32 : decode cJ6_bitCount_0f7a4 32 = .ok (.iand, 1) := by decide +kernel
theorem dJ6_bitCount_0f7a4_33 : decode cJ6_bitCount_0f7a4 33 = .ok (.istore_n 0, 1) := by decide +kernel
theorem dJ6_bitCount_0f7a4_34 : decode cJ6_bitCount_0f7a4 34 = .ok (.iload_n 0, 1) := by decide +kernel
theorem dJ6_bitCount_0f7a4_35 : decode cJ6_bitCount_0f7a4 35 = .ok (.iload_n 0, 1) := by decide +kernel
theorem dJ6_bitCount_0f7a4_36 : decode cJ6_bitCount_0f7a4 36 = .ok (.bipush 8, 2) := by decide +kernel
theorem dJ6_bitCount_0f7a4_38 : decode cJ6_bitCount_0f7a4 38 = .ok (.iushr, 1) := by decide +kernel
theorem dJ6_bitCount_0f7a4_39 : decode cJ6_bitCount_0f7a4 39 = .ok (.iadd, 1) := by decide +kernel
theorem dJ6_bitCount_0f7a4_40 : decode cJ6_bitCount_0f7a4 40 = .ok (.istore_n 0, 1) := by decide +kernel
theorem dJ6_bitCount_0f7a4_41 : decode cJ6_bitCount_0f7a4 41 = .ok (.iload_n 0, 1) := by decide +kernel
theorem dJ6_bitCount_0f7a4_42 : decode cJ6_bitCount_0f7a4 42 = .ok (.iload_n 0, 1) := by decide +kernel
theorem dJ6_bitCount_0f7a4_43 : decode cJ6_bitCount_0f7a4 43 = .ok (.bipush 16, 2) := by decide +kernel
theorem dJ6_bitCount_0f7a4_45 : decode cJ6_bitCount_0f7a4 45 = .ok (.iushr, 1) := by decide +kernel
theorem dJ6_bitCount_0f7a4_46 : decode cJ6_bitCount_0f7a4 46 = .ok (.iadd, 1) := by decide +kernel
theorem dJ6_bitCount_0f7a4_47 : decode cJ6_bitCount_0f7a4 47 = .ok (.istore_n 0, 1) := by decide +kernel
theorem dJ6_bitCount_0f7a4_48 : decode cJ6_bitCount_0f7a4 48 = .ok (.iload_n 0, 1) := by decide +kernel
theorem dJ6_bitCount_0f7a4_49 : decode cJ6_bitCount_0f7a4 49 = .ok (.bipush 63, 2) := by decide +kernel
theorem dJ6_bitCount_0f7a4_51 : decode cJ6_bitCount_0f7a4 51 = .ok (.iand, 1) := by decide +kernel
theorem dJ6_bitCount_0f7a4_52 : decode cJ6_bitCount_0f7a4 52 = .ok (.ireturn, 1) := by decide +kernel
theorem dJ9_max_7cf53_0 : decode cJ9_max_7cf53 0 = .ok (.iload_n 0, 1) := by decide +kernel
theorem dJ9_max_7cf53_1 : decode cJ9_max_7cf53 1 = .ok (.iload_n 1, 1) := by decide +kernel
theorem dJ9_max_7cf53_2 : decode cJ9_max_7cf53 2 = .ok (.if_icmp .lt 7, 3) := by decide +kernel
theorem dJ9_max_7cf53_5 : decode cJ9_max_7cf53 5 = .ok (.iload_n 0, 1) := by decide +kernel
theorem dJ9_max_7cf53_6 : decode cJ9_max_7cf53 6 = .ok (.goto 4, 3) := by decide +kernel
theorem dJ9_max_7cf53_9 : decode cJ9_max_7cf53 9 = .ok (.iload_n 1, 1) := by decide +kernel
theorem dJ9_max_7cf53_10 : decode cJ9_max_7cf53 10 = .ok (.ireturn, 1) := by decide +kernel
theorem dJ9_min_7cf53_0 : decode cJ9_min_7cf53 0 = .ok (.iload_n 0, 1) := by decide +kernel
theorem dJ9_min_7cf53_1 : decode cJ9_min_7cf53 1 = .ok (.iload_n 1, 1) := by decide +kernel
theorem dJ9_min_7cf53_2 : decode cJ9_min_7cf53 2 = .ok (.if_icmp .gt 7, 3) := by decide +kernel
theorem dJ9_min_7cf53_5 : decode cJ9_min_7cf53 5 = .ok (.iload_n 0, 1) := by decide +kernel
theorem dJ9_min_7cf53_6 : decode cJ9_min_7cf53 6 = .ok (.goto 4, 3) := by decide +kernel
theorem dJ9_min_7cf53_9 : decode cJ9_min_7cf53 9 = .ok (.iload_n 1, 1) := by decide +kernel
theorem dJ9_min_7cf53_10 : decode cJ9_min_7cf53 10 = .ok (.ireturn, 1) := by decide +kernel
set_option maxRecDepth 20000 in
theorem ggJ0_length_8abf5_J0_coder_7d493 : GoodIn wsJ0_length_8abf5 wsJ0_coder_7d493 := goodIn_r _ [6, 7, 8] (by decide +kernel) (by decide +kernel)
set_option maxRecDepth 20000 in
theorem gJ0_length_8abf5_J0_coder_7d493 : GoodIn wsJ0_length_8abf5 (wsV RJ0 335 RJ0 yJ0_coder_7d493 wsJ0_coder_7d493) := goodIn_app (goodIn_of _ (by decide +kernel)) ggJ0_length_8abf5_J0_coder_7d493
theorem dJ0_length_8abf5_0 : decode cJ0_length_8abf5 0 = .ok (.aload_n 0, 1) := by decide +kernel
theorem dJ0_length_8abf5_1 : decode cJ0_length_8abf5 1 = .ok (.getfield 9, 3) := by decide +kernel
theorem dJ0_length_8abf5_4 : decode cJ0_length_8abf5 4 = .ok (.arraylength, 1) := by decide +kernel
theorem dJ0_length_8abf5_5 : decode cJ0_length_8abf5 5 = .ok (.aload_n 0, 1) := by decide +kernel
theorem dJ0_length_8abf5_6 : decode cJ0_length_8abf5 6 = .ok (.invokevirtual 335, 3) := by decide +kernel
theorem dJ0_length_8abf5_9 : decode cJ0_length_8abf5 9 = .ok (.ishr, 1) := by decide +kernel
theorem dJ0_length_8abf5_10 : decode cJ0_length_8abf5 10 = .ok (.ireturn, 1) := by decide +kernel
set_option maxRecDepth 20000 in
theorem ggJ0_indexOf_0f7a4_J0_indexOf_7cf53 : GoodIn wsJ0_indexOf_0f7a4 wsJ0_indexOf_7cf53 := goodIn_r _ [5, 6, 7, 8, 9, 4, 10, 11, 12, 13, 14, 15, 16, 17, 18, 19, 20, 21, 22, 23, 24, 25, 26, 27, 28, 29, 30, 31, 32, 33, 34, 35, 36, 37, 38, 39, 40, 41, 42, 43, 44, 45, 46, 47, 48, 49, 50, 51, 52, 53, 54, 55, 56, 57, 58, 59, 60, 61, 62, 63, 64, 65, 66, 67, 68, 69, 70, 71, 72, 73, 74, 75, 76, 77, 78, 79, 80, 81, 82, 83, 84, 85] (by decide +kernel) (by decide +kernel)
set_option maxRecDepth 20000 in
theorem gJ0_indexOf_0f7a4_J0_indexOf_7cf53 : GoodIn wsJ0_indexOf_0f7a4 (wsV RJ0 633 RJ0 yJ0_indexOf_7cf53 wsJ0_indexOf_7cf53) := goodIn_app (goodIn_of _ (by decide +kernel)) ggJ0_indexOf_0f7a4_J0_indexOf_7cf53
theorem dJ0_indexOf_0f7a4_0 : decode cJ0_indexOf_0f7a4 0 = .ok (.aload_n 0, 1) := by decide +kernel
theorem dJ0_indexOf_0f7a4_1 : decode cJ0_indexOf_0f7a4 1 = .ok (.iload_n 1, 1) := by decide +kernel
theorem dJ0_indexOf_0f7a4_2 : decode cJ0_indexOf_0f7a4 2 = .ok (.iconst 0, 1) := by decide +kernel
theorem dJ0_indexOf_0f7a4_3 : decode cJ0_indexOf_0f7a4 3 = .ok (.invokevirtual 633, 3) := by decide +kernel
theorem dJ0_indexOf_0f7a4_6 : decode cJ0_indexOf_0f7a4 6 = .ok (.ireturn, 1) := by decide +kernel
set_option maxRecDepth 20000 in
theorem ggJ0_indexOf_7cf53_J0_isLatin1_aae02 : GoodIn wsJ0_indexOf_7cf53 wsJ0_isLatin1_aae02 := goodIn_r _ [6, 7, 8] (by decide +kernel) (by decide +kernel)
set_option maxRecDepth 20000 in
theorem gJ0_indexOf_7cf53_J0_isLatin1_aae02 : GoodIn wsJ0_indexOf_7cf53 (wsV RJ0 492 RJ0 yJ0_isLatin1_aae02 wsJ0_isLatin1_aae02) := goodIn_app (goodIn_of _ (by decide +kernel)) ggJ0_indexOf_7cf53_J0_isLatin1_aae02
set_option maxRecDepth 20000 in
theorem ggJ0_indexOf_7cf53_J0_length_8abf5 : GoodIn wsJ0_indexOf_7cf53 wsJ0_length_8abf5 := goodIn_r _ [12, 1, 13, 14, 15, 5, 16, 7, 8] (by decide +kernel) (by decide +kernel)
set_option maxRecDepth 20000 in
theorem gJ0_indexOf_7cf53_J0_length_8abf5 : GoodIn wsJ0_indexOf_7cf53 (wsV RJ0 505 RJ0 yJ0_length_8abf5 wsJ0_length_8abf5) := goodIn_app (goodIn_of _ (by decide +kernel)) ggJ0_indexOf_7cf53_J0_length_8abf5
set_option maxRecDepth 20000 in
theorem ggJ0_indexOf_7cf53_J1_indexOf_4cfef : GoodIn wsJ0_indexOf_7cf53 wsJ1_indexOf_4cfef := goodIn_r _ [20, 21, 22, 23, 24, 25, 26, 27, 28, 29, 19, 30, 31, 32, 33] (by decide +kernel) (by decide +kernel)
set_option maxRecDepth 20000 in
theorem gJ0_indexOf_7cf53_J1_indexOf_4cfef : GoodIn wsJ0_indexOf_7cf53 (va_wsS RJ0 637 yJ1_indexOf_4cfef wsJ1_indexOf_4cfef) := goodIn_app (goodIn_of _ (by decide +kernel)) ggJ0_indexOf_7cf53_J1_indexOf_4cfef
set_option maxRecDepth 20000 in
theorem ggJ0_indexOf_7cf53_J2_indexOf_4cfef : GoodIn wsJ0_indexOf_7cf53 wsJ2_indexOf_4cfef := goodIn_r _ [37, 38, 22, 23, 24, 39, 26, 27, 40, 41, 42, 36, 43, 44, 45, 46, 47, 48, 49, 50, 51, 5, 52, 53, 54, 55, 56, 57, 58, 59, 60, 61, 62, 63, 64, 65, 66, 67, 68, 69, 70, 71, 72, 73, 74, 75, 76, 77, 78, 79, 80, 81] (by decide +kernel) (by decide +kernel)
set_option maxRecDepth 20000 in
theorem gJ0_indexOf_7cf53_J2_indexOf_4cfef : GoodIn wsJ0_indexOf_7cf53 (va_wsS RJ0 640 yJ2_indexOf_4cfef wsJ2_indexOf_4cfef) := goodIn_app (goodIn_of _ (by decide +kernel)) ggJ0_indexOf_7cf53_J2_indexOf_4cfef
theorem dJ0_indexOf_7cf53_0 : decode cJ0_indexOf_7cf53 0 = .ok (.aload_n 0, 1) := by decide +kernel
theorem dJ0_indexOf_7cf53_1 : decode cJ0_indexOf_7cf53 1 = .ok (.invokevirtual 492, 3) := by decide +kernel
theorem dJ0_indexOf_7cf53_4 : decode cJ0_indexOf_7cf53 4 = .ok (.ifCond .eq 19, 3) := by decide +kernel
theorem dJ0_indexOf_7cf53_7 : decode cJ0_indexOf_7cf53 7 = .ok (.aload_n 0, 1) := by decide +kernel
theorem dJ0_indexOf_7cf53_8 : decode cJ0_indexOf_7cf53 8 = .ok (.getfield 9, 3) := by decide +kernel
theorem dJ0_indexOf_7cf53_11 : decode cJ0_indexOf_7cf53 11 = .ok (.iload_n 1, 1) := by decide +kernel
theorem dJ0_indexOf_7cf53_12 : decode cJ0_indexOf_7cf53 12 = .ok (.iload_n 2, 1) := by decide +kernel
theorem dJ0_indexOf_7cf53_13 : decode cJ0_indexOf_7cf53 13 = .ok (.aload_n 0, 1) := by decide +kernel
theorem dJ0_indexOf_7cf53_14 : decode cJ0_indexOf_7cf53 14 = .ok (.invokevirtual 505, 3) := by decide +kernel
theorem dJ0_indexOf_7cf53_17 : decode cJ0_indexOf_7cf53 17 = .ok (.invokestatic 637, 3) := by decide +kernel
theorem dJ0_indexOf_7cf53_20 : decode cJ0_indexOf_7cf53 20 = .ok (.goto 16, 3) := by decide +kernel
theorem dJ0_indexOf_7cf53_23 : decode cJ0_indexOf_7cf53 23 = .ok (.aload_n 0, 1) := by decide +kernel
theorem dJ0_indexOf_7cf53_24 : decode cJ0_indexOf_7cf53 24 = .ok (.getfield 9, 3) := by decide +kernel
theorem dJ0_indexOf_7cf53_27 : decode cJ0_indexOf_7cf53 27 = .ok (.iload_n 1, 1) := by decide +kernel
theorem dJ0_indexOf_7cf53_28 : decode cJ0_indexOf_7cf53 28 = .ok (.iload_n 2, 1) := by decide +kernel
theorem dJ0_indexOf_7cf53_29 : decode cJ0_indexOf_7cf53 29 = .ok (.aload_n 0, 1) := by decide +kernel
theorem dJ0_indexOf_7cf53_30 : decode cJ0_indexOf_7cf53 30 = .ok (.invokevirtual 505, 3) := by decide +kernel
theorem dJ0_indexOf_7cf53_33 : decode cJ0_indexOf_7cf53 33 = .ok (.invokestatic 640, 3) := by decide +kernel
theorem dJ0_indexOf_7cf53_36 : decode cJ0_indexOf_7cf53 36 = .ok (.ireturn, 1) := by decide +kernel
theorem dJ0_coder_7d493_0 : decode cJ0_coder_7d493 0 = .ok (.getstatic 38, 3) := by decide +kernel
theorem dJ0_coder_7d493_3 : decode cJ0_coder_7d493 3 = .ok (.ifCond .eq 10, 3) := by decide +kernel
theorem dJ0_coder_7d493_6 : decode cJ0_coder_7d493 6 = .ok (.aload_n 0, 1) := by decide +kernel
theorem dJ0_coder_7d493_7 : decode cJ0_coder_7d493 7 = .ok (.getfield 15, 3) := by decide +kernel
theorem dJ0_coder_7d493_10 : decode cJ0_coder_7d493 10 = .ok (.goto 4, 3) := by decide +kernel
theorem dJ0_coder_7d493_13 : decode cJ0_coder_7d493 13 = .ok (.iconst 1, 1) := by decide +kernel
theorem dJ0_coder_7d493_14 : decode cJ0_coder_7d493 14 = .ok (.ireturn, 1) := by decide +kernel
theorem dJ0_isLatin1_aae02_0 : decode cJ0_isLatin1_aae02 0 = .ok (.getstatic 38, 3) := by decide +kernel
theorem dJ0_isLatin1_aae02_3 : decode cJ0_isLatin1_aae02 3 = .ok (.ifCond .eq 14, 3) := by decide +kernel
theorem dJ0_isLatin1_aae02_6 : decode cJ0_isLatin1_aae02 6 = .ok (.aload_n 0, 1) := by decide +kernel
theorem dJ0_isLatin1_aae02_7 : decode cJ0_isLatin1_aae02 7 = .ok (.getfield 15, 3) := by decide +kernel
theorem dJ0_isLatin1_aae02_10 : decode cJ0_isLatin1_aae02 10 = .ok (.ifCond .ne 7, 3) := by decide +kernel
theorem dJ0_isLatin1_aae02_13 : decode cJ0_isLatin1_aae02 13 = .ok (.iconst 1, 1) := by decide +kernel
theorem dJ0_isLatin1_aae02_14 : decode cJ0_isLatin1_aae02 14 = .ok (.goto 4, 3) := by decide +kernel
theorem dJ0_isLatin1_aae02_17 : decode cJ0_isLatin1_aae02 17 = .ok (.iconst 0, 1) := by decide +kernel
theorem dJ0_isLatin1_aae02_18 : decode cJ0_isLatin1_aae02 18 = .ok (.ireturn, 1) := by decide +kernel
set_option maxRecDepth 20000 in
theorem ggJ0_checkBoundsBeginEnd_23922_J3_checkFromToIndex_8c36e : GoodIn wsJ0_checkBoundsBeginEnd_23922 wsJ3_checkFromToIndex_8c36e := goodIn_r _ [5] (by decide +kernel) (by decide +kernel)
set_option maxRecDepth 20000 in
theorem gJ0_checkBoundsBeginEnd_23922_J3_checkFromToIndex_8c36e : GoodIn wsJ0_checkBoundsBeginEnd_23922 (va_wsS RJ0 1062 yJ3_checkFromToIndex_8c36e wsJ3_checkFromToIndex_8c36e) := goodIn_app (goodIn_of _ (by decide +kernel)) ggJ0_checkBoundsBeginEnd_23922_J3_checkFromToIndex_8c36e
theorem dJ0_checkBoundsBeginEnd_23922_0 : decode cJ0_checkBoundsBeginEnd_23922 0 = .ok (.iload_n 0, 1) := by decide +kernel
theorem dJ0_checkBoundsBeginEnd_23922_1 : decode cJ0_checkBoundsBeginEnd_23922 1 = .ok (.iload_n 1, 1) := by decide +kernel
theorem dJ0_checkBoundsBeginEnd_23922_2 : decode cJ0_checkBoundsBeginEnd_23922 2 = .ok (.iload_n 2, 1) := by decide +kernel
theorem dJ0_checkBoundsBeginEnd_23922_3 : decode cJ0_checkBoundsBeginEnd_23922 3 = .ok (.getstatic 1053, 3) := by decide +kernel
theorem dJ0_checkBoundsBeginEnd_23922_6 : decode cJ0_checkBoundsBeginEnd_23922 6 = .ok (.invokestatic 1062, 3) := by decide +kernel
theorem dJ0_checkBoundsBeginEnd_23922_9 : decode cJ0_checkBoundsBeginEnd_23922 9 = .ok (.pop, 1) := by decide +kernel
theorem dJ0_checkBoundsBeginEnd_23922_10 : decode cJ0_checkBoundsBeginEnd_23922 10 = .ok (.return_, 1) := by decide +kernel
theorem dJ1_canEncode_9a6ad_0 : decode cJ1_canEncode_9a6ad 0 = .ok (.iload_n 0, 1) := by decide +kernel
theorem dJ1_canEncode_9a6ad_1 : decode cJ1_canEncode_9a6ad 1 = .ok (.ifCond .lt 14, 3) := by decide +kernel
theorem dJ1_canEncode_9a6ad_4 : decode cJ1_canEncode_9a6ad 4 = .ok (.iload_n 0, 1) := by decide +kernel
theorem dJ1_canEncode_9a6ad_5 : decode cJ1_canEncode_9a6ad 5 = .ok (.sipush 255, 3) := by decide +kernel
theorem dJ1_canEncode_9a6ad_8 : decode cJ1_canEncode_9a6ad 8 = .ok (.if_icmp .gt 7, 3) := by decide +kernel
theorem dJ1_canEncode_9a6ad_11 : decode cJ1_canEncode_9a6ad 11 = .ok (.iconst 1, 1) := by decide +kernel
theorem dJ1_canEncode_9a6ad_12 : decode cJ1_canEncode_9a6ad 12 = .ok (.goto 4, 3) := by decide +kernel
theorem dJ1_canEncode_9a6ad_15 : decode cJ1_canEncode_9a6ad 15 = .ok (.iconst 0, 1) := by decide +kernel
theorem dJ1_canEncode_9a6ad_16 : decode cJ1_canEncode_9a6ad 16 = .ok (.ireturn, 1) := by decide +kernel
set_option maxRecDepth 20000 in
theorem ggJ1_indexOf_4cfef_J1_canEncode_9a6ad : GoodIn wsJ1_indexOf_4cfef wsJ1_canEncode_9a6ad := goodIn_r _ [11] (by decide +kernel) (by decide +kernel)
set_option maxRecDepth 20000 in
theorem gJ1_indexOf_4cfef_J1_canEncode_9a6ad : GoodIn wsJ1_indexOf_4cfef (va_wsS RJ1 88 yJ1_canEncode_9a6ad wsJ1_canEncode_9a6ad) := goodIn_app (goodIn_of _ (by decide +kernel)) ggJ1_indexOf_4cfef_J1_canEncode_9a6ad
set_option maxRecDepth 20000 in
theorem ggJ1_indexOf_4cfef_J1_indexOfChar_4cfef : GoodIn wsJ1_indexOf_4cfef wsJ1_indexOfChar_4cfef := goodIn_r _ [14] (by decide +kernel) (by decide +kernel)
set_option maxRecDepth 20000 in
theorem gJ1_indexOf_4cfef_J1_indexOfChar_4cfef : GoodIn wsJ1_indexOf_4cfef (va_wsS RJ1 95 yJ1_indexOfChar_4cfef wsJ1_indexOfChar_4cfef) := goodIn_app (goodIn_of _ (by decide +kernel)) ggJ1_indexOf_4cfef_J1_indexOfChar_4cfef
theorem dJ1_indexOf_4cfef_0 : decode cJ1_indexOf_4cfef 0 = .ok (.iload_n 1, 1) := by decide +kernel
theorem dJ1_indexOf_4cfef_1 : decode cJ1_indexOf_4cfef 1 = .ok (.invokestatic 88, 3) := by decide +kernel
theorem dJ1_indexOf_4cfef_4 : decode cJ1_indexOf_4cfef 4 = .ok (.ifCond .ne 5, 3) := by decide +kernel
theorem dJ1_indexOf_4cfef_7 : decode cJ1_indexOf_4cfef 7 = .ok (.iconst (-1), 1) := by decide +kernel
theorem dJ1_indexOf_4cfef_8 : decode cJ1_indexOf_4cfef 8 = .ok (.ireturn, 1) := by decide +kernel
theorem dJ1_indexOf_4cfef_9 : decode cJ1_indexOf_4cfef 9 = .ok (.iload_n 2, 1) := by decide +kernel
theorem dJ1_indexOf_4cfef_10 : decode cJ1_indexOf_4cfef 10 = .ok (.iconst 0, 1) := by decide +kernel
theorem dJ1_indexOf_4cfef_11 : decode cJ1_indexOf_4cfef 11 = .ok (.invokestatic 92, 3) := by decide +kernel
theorem dJ1_indexOf_4cfef_14 : decode cJ1_indexOf_4cfef 14 = .ok (.istore_n 2, 1) := by decide +kernel
theorem dJ1_indexOf_4cfef_15 : decode cJ1_indexOf_4cfef 15 = .ok (.iload_n 3, 1) := by decide +kernel
theorem dJ1_indexOf_4cfef_16 : decode cJ1_indexOf_4cfef 16 = .ok (.aload_n 0, 1) := by decide +kernel
theorem dJ1_indexOf_4cfef_17 : decode cJ1_indexOf_4cfef 17 = .ok (.arraylength, 1) := by decide +kernel
theorem dJ1_indexOf_4cfef_18 : decode cJ1_indexOf_4cfef 18 = .ok (.invokestatic 38, 3) := by decide +kernel
theorem dJ1_indexOf_4cfef_21 : decode cJ1_indexOf_4cfef 21 = .ok (.istore_n 3, 1) := by decide +kernel
theorem dJ1_indexOf_4cfef_22 : decode cJ1_indexOf_4cfef 22 = .ok (.iload_n 2, 1) := by decide +kernel
theorem dJ1_indexOf_4cfef_23 : decode cJ1_indexOf_4cfef 23 = .ok (.iload_n 3, 1) := by decide +kernel
theorem dJ1_indexOf_4cfef_24 : decode cJ1_indexOf_4cfef 24 = .ok (.if_icmp .lt 5, 3) := by decide +kernel
theorem dJ1_indexOf_4cfef_27 : decode cJ1_indexOf_4cfef 27 = .ok (.iconst (-1), 1) := by decide +kernel
theorem dJ1_indexOf_4cfef_28 : decode cJ1_indexOf_4cfef 28 = .ok (.ireturn, 1) := by decide +kernel
theorem dJ1_indexOf_4cfef_29 : decode cJ1_indexOf_4cfef 29 = .ok (.aload_n 0, 1) := by decide +kernel
theorem dJ1_indexOf_4cfef_30 : decode cJ1_indexOf_4cfef 30 = .ok (.iload_n 1, 1) := by decide +kernel
theorem dJ1_indexOf_4cfef_31 : decode cJ1_indexOf_4cfef 31 = .ok (.iload_n 2, 1) := by decide +kernel
theorem dJ1_indexOf_4cfef_32 : decode cJ1_indexOf_4cfef 32 = .ok (.iload_n 3, 1) := by decide +kernel
theorem dJ1_indexOf_4cfef_33 : decode cJ1_indexOf_4cfef 33 = .ok (.invokestatic 95, 3) := by decide +kernel
theorem dJ1_indexOf_4cfef_36 : decode cJ1_indexOf_4cfef 36 = .ok (.ireturn, 1) := by decide +kernel
theorem dJ1_indexOfChar_4cfef_0 : decode cJ1_indexOfChar_4cfef 0 = .ok (.iload_n 1, 1) := by decide +kernel
theorem dJ1_indexOfChar_4cfef_1 : decode cJ1_indexOfChar_4cfef 1 = .ok (.i2b, 1) := by decide +kernel
theorem dJ1_indexOfChar_4cfef_2 : decode cJ1_indexOfChar_4cfef 2 = .ok (.istore 4, 2) := by decide +kernel
theorem dJ1_indexOfChar_4cfef_4 : decode cJ1_indexOfChar_4cfef 4 = .ok (.iload_n 2, 1) := by decide +kernel
theorem dJ1_indexOfChar_4cfef_5 : decode cJ1_indexOfChar_4cfef 5 = .ok (.istore 5, 2) := by decide +kernel
theorem dJ1_indexOfChar_4cfef_7 : decode cJ1_indexOfChar_4cfef 7 = .ok (.iload 5, 2) := by decide +kernel
theorem dJ1_indexOfChar_4cfef_9 : decode cJ1_indexOfChar_4cfef 9 = .ok (.iload_n 3, 1) := by decide +kernel
theorem dJ1_indexOfChar_4cfef_10 : decode cJ1_indexOfChar_4cfef 10 = .ok (.if_icmp .ge 21, 3) := by decide +kernel
theorem dJ1_indexOfChar_4cfef_13 : decode cJ1_indexOfChar_4cfef 13 = .ok (.aload_n 0, 1) := by decide +kernel
theorem dJ1_indexOfChar_4cfef_14 : decode cJ1_indexOfChar_4cfef 14 = .ok (.iload 5, 2) := by decide +kernel
theorem dJ1_indexOfChar_4cfef_16 : decode cJ1_indexOfChar_4cfef 16 = .ok (.baload, 1) := by decide +kernel
theorem dJ1_indexOfChar_4cfef_17 : decode cJ1_indexOfChar_4cfef 17 = .ok (.iload 4, 2) := by decide +kernel
theorem dJ1_indexOfChar_4cfef_19 : decode cJ1_indexOfChar_4cfef 19 = .ok (.if_icmp .ne 6, 3) := by decide +kernel
theorem dJ1_indexOfChar_4cfef_22 : decode cJ1_indexOfChar_4cfef 22 = .ok (.iload 5, 2) := by decide +kernel
theorem dJ1_indexOfChar_4cfef_24 : decode cJ1_indexOfChar_4cfef 24 = .ok (.ireturn, 1) := by decide +kernel
theorem dJ1_indexOfChar_4cfef_25 : decode cJ1_indexOfChar_4cfef 25 = .ok (.iinc 5 1, 3) := by decide +kernel
theorem dJ1_indexOfChar_4cfef_28 : decode cJ1_indexOfChar_4cfef 28 = .ok (.goto (-21), 3) := by decide +kernel
theorem dJ1_indexOfChar_4cfef_31 : decode cJ1_indexOfChar_4cfef 31 = .ok (.iconst (-1), 1) := by decide +kernel
theorem dJ1_indexOfChar_4cfef_32 : decode cJ1_indexOfChar_4cfef 32 = .ok (.ireturn, 1) := by decide +kernel
set_option maxRecDepth 20000 in
theorem ggJ2_getChar_3b067_J2_length_9d52b : GoodIn wsJ2_getChar_3b067 wsJ2_length_9d52b := goodIn_r _ [7] (by decide +kernel) (by decide +kernel)
set_option maxRecDepth 20000 in
theorem gJ2_getChar_3b067_J2_length_9d52b : GoodIn wsJ2_getChar_3b067 (va_wsS RJ2 48 yJ2_length_9d52b wsJ2_length_9d52b) := goodIn_app (goodIn_of _ (by decide +kernel)) ggJ2_getChar_3b067_J2_length_9d52b
theorem dJ2_getChar_3b067_0 : decode cJ2_getChar_3b067 0 = .ok (.getstatic 44, 3) := by decide +kernel
theorem dJ2_getChar_3b067_3 : decode cJ2_getChar_3b067 3 = .ok (.ifCond .ne 25, 3) := by decide +kernel
theorem dJ2_getChar_3b067_6 : decode cJ2_getChar_3b067 6 = .ok (.iload_n 1, 1) := by decide +kernel
theorem dJ2_getChar_3b067_7 : decode cJ2_getChar_3b067 7 = .ok (.ifCond .lt 11, 3) := by decide +kernel
theorem dJ2_getChar_3b067_10 : decode cJ2_getChar_3b067 10 = .ok (.iload_n 1, 1) := by decide +kernel
theorem dJ2_getChar_3b067_11 : decode cJ2_getChar_3b067 11 = .ok (.aload_n 0, 1) := by decide +kernel
theorem dJ2_getChar_3b067_12 : decode cJ2_getChar_3b067 12 = .ok (.invokestatic 48, 3) := by decide +kernel
theorem dJ2_getChar_3b067_15 : decode cJ2_getChar_3b067 15 = .ok (.if_icmp .lt 13, 3) := by decide +kernel
theorem dJ2_getChar_3b067_18 : decode cJ2_getChar_3b067 18 = .ok (.new 52, 3) := by decide +kernel
theorem dJ2_getChar_3b067_21 : decode cJ2_getChar_3b067 21 = .ok (.dup, 1) := by decide +kernel
theorem dJ2_getChar_3b067_22 : decode cJ2_getChar_3b067 22 = .ok (.ldc 54, 2) := by decide +kernel
theorem dJ2_getChar_3b067_24 : decode cJ2_getChar_3b067 24 = .ok (.invokespecial 56, 3) := by decide +kernel
theorem dJ2_getChar_3b067_27 : decode cJ2_getChar_3b067 27 = .ok (.athrow, 1) := by decide +kernel
theorem dJ2_getChar_3b067_28 : decode cJ2_getChar_3b067 28 = .ok (.iload_n 1, 1) := by decide +kernel
theorem dJ2_getChar_3b067_29 : decode cJ2_getChar_3b067 29 = .ok (.iconst 1, 1) := by decide +kernel
theorem dJ2_getChar_3b067_30 : decode cJ2_getChar_3b067 30 = .ok (.ishl, 1) := by decide +kernel
theorem dJ2_getChar_3b067_31 : decode cJ2_getChar_3b067 31 = .ok (.istore_n 1, 1) := by decide +kernel
theorem dJ2_getChar_3b067_32 : decode cJ2_getChar_3b067 32 = .ok (.aload_n 0, 1) := by decide +kernel
theorem dJ2_getChar_3b067_33 : decode cJ2_getChar_3b067 33 = .ok (.iload_n 1, 1) := by decide +kernel
theorem dJ2_getChar_3b067_34 : decode cJ2_getChar_3b067 34 = .ok (.iinc 1 1, 3) := by decide +kernel
theorem dJ2_getChar_3b067_37 : decode cJ2_getChar_3b067 37 = .ok (.baload, 1) := by decide +kernel
theorem dJ2_getChar_3b067_38 : decode cJ2_getChar_3b067 38 = .ok (.sipush 255, 3) := by decide +kernel
theorem dJ2_getChar_3b067_41 : decode cJ2_getChar_3b067 41 = .ok (.iand, 1) := by decide +kernel
theorem dJ2_getChar_3b067_42 : decode cJ2_getChar_3b067 42 = .ok (.getstatic 59, 3) := by decide +kernel
theorem dJ2_getChar_3b067_45 : decode cJ2_getChar_3b067 45 = .ok (.ishl, 1) := by decide +kernel
theorem dJ2_getChar_3b067_46 : decode cJ2_getChar_3b067 46 = .ok (.aload_n 0, 1) := by decide +kernel
theorem dJ2_getChar_3b067_47 : decode cJ2_getChar_3b067 47 = .ok (.iload_n 1, 1) := by decide +kernel
theorem dJ2_getChar_3b067_48 : decode cJ2_getChar_3b067 48 = .ok (.baload, 1) := by decide +kernel
theorem dJ2_getChar_3b067_49 : decode cJ2_getChar_3b067 49 = .ok (.sipush 255, 3) := by decide +kernel
theorem dJ2_getChar_3b067_52 : decode cJ2_getChar_3b067 52 = .ok (.iand, 1) := by decide +kernel
theorem dJ2_getChar_3b067_53 : decode cJ2_getChar_3b067 53 = .ok (.getstatic 63, 3) := by decide +kernel
theorem dJ2_getChar_3b067_56 : decode cJ2_getChar_3b067 56 = .ok (.ishl, 1) := by decide +kernel
theorem dJ2_getChar_3b067_57 : decode cJ2_getChar_3b067 57 = .ok (.ior, 1) := by decide +kernel
theorem dJ2_getChar_3b067_58 : decode cJ2_getChar_3b067 58 = .ok (.i2c, 1) := by decide +kernel
theorem dJ2_getChar_3b067_59 : decode cJ2_getChar_3b067 59 = .ok (.ireturn, 1) := by decide +kernel
theorem dJ2_length_9d52b_0 : decode cJ2_length_9d52b 0 = .ok (.aload_n 0, 1) := by decide +kernel
theorem dJ2_length_9d52b_1 : decode cJ2_length_9d52b 1 = .ok (.arraylength, 1) := by decide +kernel
theorem dJ2_length_9d52b_2 : decode cJ2_length_9d52b 2 = .ok (.iconst 1, 1) := by decide +kernel
theorem dJ2_length_9d52b_3 : decode cJ2_length_9d52b 3 = .ok (.ishr, 1) := by decide +kernel
theorem dJ2_length_9d52b_4 : decode cJ2_length_9d52b 4 = .ok (.ireturn, 1) := by decide +kernel
set_option maxRecDepth 20000 in
theorem ggJ2_indexOf_4cfef_J2_indexOfChar_4cfef : GoodIn wsJ2_indexOf_4cfef wsJ2_indexOfChar_4cfef := goodIn_r _ [12, 13, 14, 11, 15, 16, 17, 18, 19, 20, 21, 22, 23, 24, 25, 26, 27, 28, 29, 30, 31, 32, 33, 34, 35, 36] (by decide +kernel) (by decide +kernel)
set_option maxRecDepth 20000 in
theorem gJ2_indexOf_4cfef_J2_indexOfChar_4cfef : GoodIn wsJ2_indexOf_4cfef (va_wsS RJ2 228 yJ2_indexOfChar_4cfef wsJ2_indexOfChar_4cfef) := goodIn_app (goodIn_of _ (by decide +kernel)) ggJ2_indexOf_4cfef_J2_indexOfChar_4cfef
set_option maxRecDepth 20000 in
theorem ggJ2_indexOf_4cfef_J2_indexOfSupplementary_4cfef : GoodIn wsJ2_indexOf_4cfef wsJ2_indexOfSupplementary_4cfef := goodIn_r _ [39, 40, 41, 42, 43, 44, 45, 46, 47, 48, 49, 50, 51, 13, 14, 11, 15, 16, 17, 18, 19, 20, 21, 22, 23, 24, 25, 26, 27, 31, 32, 33, 34, 35, 36] (by decide +kernel) (by decide +kernel)
set_option maxRecDepth 20000 in
theorem gJ2_indexOf_4cfef_J2_indexOfSupplementary_4cfef : GoodIn wsJ2_indexOf_4cfef (va_wsS RJ2 232 yJ2_indexOfSupplementary_4cfef wsJ2_indexOfSupplementary_4cfef) := goodIn_app (goodIn_of _ (by decide +kernel)) ggJ2_indexOf_4cfef_J2_indexOfSupplementary_4cfef
theorem dJ2_indexOf_4cfef_0 : decode cJ2_indexOf_4cfef 0 = .ok (.iload_n 2, 1) := by decide +kernel
theorem dJ2_indexOf_4cfef_1 : decode cJ2_indexOf_4cfef 1 = .ok (.iconst 0, 1) := by decide +kernel
theorem dJ2_indexOf_4cfef_2 : decode cJ2_indexOf_4cfef 2 = .ok (.invokestatic 224, 3) := by decide +kernel
theorem dJ2_indexOf_4cfef_5 : decode cJ2_indexOf_4cfef 5 = .ok (.istore_n 2, 1) := by decide +kernel
theorem dJ2_indexOf_4cfef_6 : decode cJ2_indexOf_4cfef 6 = .ok (.iload_n 3, 1) := by decide +kernel
theorem dJ2_indexOf_4cfef_7 : decode cJ2_indexOf_4cfef 7 = .ok (.aload_n 0, 1) := by decide +kernel
theorem dJ2_indexOf_4cfef_8 : decode cJ2_indexOf_4cfef 8 = .ok (.arraylength, 1) := by decide +kernel
theorem dJ2_indexOf_4cfef_9 : decode cJ2_indexOf_4cfef 9 = .ok (.iconst 1, 1) := by decide +kernel
theorem dJ2_indexOf_4cfef_10 : decode cJ2_indexOf_4cfef 10 = .ok (.ishr, 1) := by decide +kernel
theorem dJ2_indexOf_4cfef_11 : decode cJ2_indexOf_4cfef 11 = .ok (.invokestatic 183, 3) := by decide +kernel
theorem dJ2_indexOf_4cfef_14 : decode cJ2_indexOf_4cfef 14 = .ok (.istore_n 3, 1) := by decide +kernel
theorem dJ2_indexOf_4cfef_15 : decode cJ2_indexOf_4cfef 15 = .ok (.iload_n 2, 1) := by decide +kernel
theorem dJ2_indexOf_4cfef_16 : decode cJ2_indexOf_4cfef 16 = .ok (.iload_n 3, 1) := by decide +kernel
theorem dJ2_indexOf_4cfef_17 : decode cJ2_indexOf_4cfef 17 = .ok (.if_icmp .lt 5, 3) := by decide +kernel
theorem dJ2_indexOf_4cfef_20 : decode cJ2_indexOf_4cfef 20 = .ok (.iconst (-1), 1) := by decide +kernel
theorem dJ2_indexOf_4cfef_21 : decode cJ2_indexOf_4cfef 21 = .ok (.ireturn, 1) := by decide +kernel
theorem dJ2_indexOf_4cfef_22 : decode cJ2_indexOf_4cfef 22 = .ok (.iload_n 1, 1) := by decide +kernel
theorem dJ2_indexOf_4cfef_23 : decode cJ2_indexOf_4cfef 23 = .ok (.ldc 227, 2) := by decide +kernel
theorem dJ2_indexOf_4cfef_25 : decode cJ2_indexOf_4cfef 25 = .ok (.if_icmp .ge 11, 3) := by decide +kernel
theorem dJ2_indexOf_4cfef_28 : decode cJ2_indexOf_4cfef 28 = .ok (.aload_n 0, 1) := by decide +kernel
theorem dJ2_indexOf_4cfef_29 : decode cJ2_indexOf_4cfef 29 = .ok (.iload_n 1, 1) := by decide +kernel
theorem dJ2_indexOf_4cfef_30 : decode cJ2_indexOf_4cfef 30 = .ok (.iload_n 2, 1) := by decide +kernel
theorem dJ2_indexOf_4cfef_31 : decode cJ2_indexOf_4cfef 31 = .ok (.iload_n 3, 1) := by decide +kernel
theorem dJ2_indexOf_4cfef_32 : decode cJ2_indexOf_4cfef 32 = .ok (.invokestatic 228, 3) := by decide +kernel
theorem dJ2_indexOf_4cfef_35 : decode cJ2_indexOf_4cfef 35 = .ok (.ireturn, 1) := by decide +kernel
theorem dJ2_indexOf_4cfef_36 : decode cJ2_indexOf_4cfef 36 = .ok (.aload_n 0, 1) := by decide +kernel
theorem dJ2_indexOf_4cfef_37 : decode cJ2_indexOf_4cfef 37 = .ok (.iload_n 1, 1) := by decide +kernel
theorem dJ2_indexOf_4cfef_38 : decode cJ2_indexOf_4cfef 38 = .ok (.iload_n 2, 1) := by decide +kernel
theorem dJ2_indexOf_4cfef_39 : decode cJ2_indexOf_4cfef 39 = .ok (.iload_n 3, 1) := by decide +kernel
theorem dJ2_indexOf_4cfef_40 : decode cJ2_indexOf_4cfef 40 = .ok (.invokestatic 232, 3) := by decide +kernel
theorem dJ2_indexOf_4cfef_43 : decode cJ2_indexOf_4cfef 43 = .ok (.ireturn, 1) := by decide +kernel
set_option maxRecDepth 20000 in
theorem ggJ2_indexOfChar_4cfef_J2_checkBoundsBeginEnd_d044e : GoodIn wsJ2_indexOfChar_4cfef wsJ2_checkBoundsBeginEnd_d044e := goodIn_r _ [4, 5, 6, 3, 7, 8, 9, 10, 11, 12, 13, 14, 15, 16] (by decide +kernel) (by decide +kernel)
set_option maxRecDepth 20000 in
theorem gJ2_indexOfChar_4cfef_J2_checkBoundsBeginEnd_d044e : GoodIn wsJ2_indexOfChar_4cfef (va_wsS RJ2 96 yJ2_checkBoundsBeginEnd_d044e wsJ2_checkBoundsBeginEnd_d044e) := goodIn_app (goodIn_of _ (by decide +kernel)) ggJ2_indexOfChar_4cfef_J2_checkBoundsBeginEnd_d044e
set_option maxRecDepth 20000 in
theorem ggJ2_indexOfChar_4cfef_J2_indexOfCharUnsafe_4cfef : GoodIn wsJ2_indexOfChar_4cfef wsJ2_indexOfCharUnsafe_4cfef := goodIn_r _ [19, 20, 21, 3, 22, 23, 24, 25, 5, 6, 7] (by decide +kernel) (by decide +kernel)
set_option maxRecDepth 20000 in
theorem gJ2_indexOfChar_4cfef_J2_indexOfCharUnsafe_4cfef : GoodIn wsJ2_indexOfChar_4cfef (va_wsS RJ2 244 yJ2_indexOfCharUnsafe_4cfef wsJ2_indexOfCharUnsafe_4cfef) := goodIn_app (goodIn_of _ (by decide +kernel)) ggJ2_indexOfChar_4cfef_J2_indexOfCharUnsafe_4cfef
theorem dJ2_indexOfChar_4cfef_0 : decode cJ2_indexOfChar_4cfef 0 = .ok (.iload_n 2, 1) := by decide +kernel
theorem dJ2_indexOfChar_4cfef_1 : decode cJ2_indexOfChar_4cfef 1 = .ok (.iload_n 3, 1) := by decide +kernel
theorem dJ2_indexOfChar_4cfef_2 : decode cJ2_indexOfChar_4cfef 2 = .ok (.aload_n 0, 1) := by decide +kernel
theorem dJ2_indexOfChar_4cfef_3 : decode cJ2_indexOfChar_4cfef 3 = .ok (.invokestatic 96, 3) := by decide +kernel
theorem dJ2_indexOfChar_4cfef_6 : decode cJ2_indexOfChar_4cfef 6 = .ok (.aload_n 0, 1) := by decide +kernel
theorem dJ2_indexOfChar_4cfef_7 : decode cJ2_indexOfChar_4cfef 7 = .ok (.iload_n 1, 1) := by decide +kernel
theorem dJ2_indexOfChar_4cfef_8 : decode cJ2_indexOfChar_4cfef 8 = .ok (.iload_n 2, 1) := by decide +kernel
theorem dJ2_indexOfChar_4cfef_9 : decode cJ2_indexOfChar_4cfef 9 = .ok (.iload_n 3, 1) := by decide +kernel
theorem dJ2_indexOfChar_4cfef_10 : decode cJ2_indexOfChar_4cfef 10 = .ok (.invokestatic 244, 3) := by decide +kernel
theorem dJ2_indexOfChar_4cfef_13 : decode cJ2_indexOfChar_4cfef 13 = .ok (.ireturn, 1) := by decide +kernel
set_option maxRecDepth 20000 in
theorem ggJ2_indexOfCharUnsafe_4cfef_J2_getChar_3b067 : GoodIn wsJ2_indexOfCharUnsafe_4cfef wsJ2_getChar_3b067 := goodIn_r _ [4, 5, 6, 7, 8, 9, 3, 10] (by decide +kernel) (by decide +kernel)
set_option maxRecDepth 20000 in
theorem gJ2_indexOfCharUnsafe_4cfef_J2_getChar_3b067 : GoodIn wsJ2_indexOfCharUnsafe_4cfef (va_wsS RJ2 71 yJ2_getChar_3b067 wsJ2_getChar_3b067) := goodIn_app (goodIn_of _ (by decide +kernel)) ggJ2_indexOfCharUnsafe_4cfef_J2_getChar_3b067
theorem dJ2_indexOfCharUnsafe_4cfef_0 : decode cJ2_indexOfCharUnsafe_4cfef 0 = .ok (.iload_n 2, 1) := by decide +kernel
theorem dJ2_indexOfCharUnsafe_4cfef_1 : decode cJ2_indexOfCharUnsafe_4cfef 1 = .ok (.istore 4, 2) := by decide +kernel
theorem dJ2_indexOfCharUnsafe_4cfef_3 : decode cJ2_indexOfCharUnsafe_4cfef 3 = .ok (.iload 4, 2) := by decide +kernel
theorem dJ2_indexOfCharUnsafe_4cfef_5 : decode cJ2_indexOfCharUnsafe_4cfef 5 = .ok (.iload_n 3, 1) := by decide +kernel
theorem dJ2_indexOfCharUnsafe_4cfef_6 : decode cJ2_indexOfCharUnsafe_4cfef 6 = .ok (.if_icmp .ge 22, 3) := by decide +kernel
theorem dJ2_indexOfCharUnsafe_4cfef_9 : decode cJ2_indexOfCharUnsafe_4cfef 9 = .ok (.aload_n 0, 1) := by decide +kernel
theorem dJ2_indexOfCharUnsafe_4cfef_10 : decode cJ2_indexOfCharUnsafe_4cfef 10 = .ok (.iload 4, 2) := by decide +kernel
theorem dJ2_indexOfCharUnsafe_4cfef_12 : decode cJ2_indexOfCharUnsafe_4cfef 12 = .ok (.invokestatic 71, 3) := by decide +kernel
theorem dJ2_indexOfCharUnsafe_4cfef_15 : decode cJ2_indexOfCharUnsafe_4cfef 15 = .ok (.iload_n 1, 1) := by decide +kernel
theorem dJ2_indexOfCharUnsafe_4cfef_16 : decode cJ2_indexOfCharUnsafe_4cfef 16 = .ok (.if_icmp .ne 6, 3) := by decide +kernel
theorem dJ2_indexOfCharUnsafe_4cfef_19 : decode cJ2_indexOfCharUnsafe_4cfef 19 = .ok (.iload 4, 2) := by decide +kernel
theorem dJ2_indexOfCharUnsafe_4cfef_21 : decode cJ2_indexOfCharUnsafe_4cfef 21 = .ok (.ireturn, 1) := by decide +kernel
theorem dJ2_indexOfCharUnsafe_4cfef_22 : decode cJ2_indexOfCharUnsafe_4cfef 22 = .ok (.iinc 4 1, 3) := by decide +kernel
theorem dJ2_indexOfCharUnsafe_4cfef_25 : decode cJ2_indexOfCharUnsafe_4cfef 25 = .ok (.goto (-22), 3) := by decide +kernel
theorem dJ2_indexOfCharUnsafe_4cfef_28 : decode cJ2_indexOfCharUnsafe_4cfef 28 = .ok (.iconst (-1), 1) := by decide +kernel
theorem dJ2_indexOfCharUnsafe_4cfef_29 : decode cJ2_indexOfCharUnsafe_4cfef 29 = .ok (.ireturn, 1) := by decide +kernel
set_option maxRecDepth 20000 in
theorem ggJ2_indexOfSupplementary_4cfef_J11_isValidCodePoint_9a6ad : GoodIn wsJ2_indexOfSupplementary_4cfef wsJ11_isValidCodePoint_9a6ad := goodIn_r _ [4] (by decide +kernel) (by decide +kernel)
set_option maxRecDepth 20000 in
theorem gJ2_indexOfSupplementary_4cfef_J11_isValidCodePoint_9a6ad : GoodIn wsJ2_indexOfSupplementary_4cfef (va_wsS RJ2 164 yJ11_isValidCodePoint_9a6ad wsJ11_isValidCodePoint_9a6ad) := goodIn_app (goodIn_of _ (by decide +kernel)) ggJ2_indexOfSupplementary_4cfef_J11_isValidCodePoint_9a6ad
set_option maxRecDepth 20000 in
theorem ggJ2_indexOfSupplementary_4cfef_J11_highSurrogate_5068e : GoodIn wsJ2_indexOfSupplementary_4cfef wsJ11_highSurrogate_5068e := goodIn_r _ [7, 8] (by decide +kernel) (by decide +kernel)
set_option maxRecDepth 20000 in
theorem gJ2_indexOfSupplementary_4cfef_J11_highSurrogate_5068e : GoodIn wsJ2_indexOfSupplementary_4cfef (va_wsS RJ2 157 yJ11_highSurrogate_5068e wsJ11_highSurrogate_5068e) := goodIn_app (goodIn_of _ (by decide +kernel)) ggJ2_indexOfSupplementary_4cfef_J11_highSurrogate_5068e
set_option maxRecDepth 20000 in
theorem ggJ2_indexOfSupplementary_4cfef_J11_lowSurrogate_5068e : GoodIn wsJ2_indexOfSupplementary_4cfef wsJ11_lowSurrogate_5068e := goodIn_r _ [11, 12] (by decide +kernel) (by decide +kernel)
set_option maxRecDepth 20000 in
theorem gJ2_indexOfSupplementary_4cfef_J11_lowSurrogate_5068e : GoodIn wsJ2_indexOfSupplementary_4cfef (va_wsS RJ2 161 yJ11_lowSurrogate_5068e wsJ11_lowSurrogate_5068e) := goodIn_app (goodIn_of _ (by decide +kernel)) ggJ2_indexOfSupplementary_4cfef_J11_lowSurrogate_5068e
set_option maxRecDepth 20000 in
theorem ggJ2_indexOfSupplementary_4cfef_J2_checkBoundsBeginEnd_d044e : GoodIn wsJ2_indexOfSupplementary_4cfef wsJ2_checkBoundsBeginEnd_d044e := goodIn_r _ [16, 17, 18, 15, 19, 20, 21, 22, 23, 24, 25, 26, 27, 28] (by decide +kernel) (by decide +kernel)
set_option maxRecDepth 20000 in
theorem gJ2_indexOfSupplementary_4cfef_J2_checkBoundsBeginEnd_d044e : GoodIn wsJ2_indexOfSupplementary_4cfef (va_wsS RJ2 96 yJ2_checkBoundsBeginEnd_d044e wsJ2_checkBoundsBeginEnd_d044e) := goodIn_app (goodIn_of _ (by decide +kernel)) ggJ2_indexOfSupplementary_4cfef_J2_checkBoundsBeginEnd_d044e
set_option maxRecDepth 20000 in
theorem ggJ2_indexOfSupplementary_4cfef_J2_getChar_3b067 : GoodIn wsJ2_indexOfSupplementary_4cfef wsJ2_getChar_3b067 := goodIn_r _ [31, 32, 33, 34, 17, 18, 15, 19] (by decide +kernel) (by decide +kernel)
set_option maxRecDepth 20000 in
theorem gJ2_indexOfSupplementary_4cfef_J2_getChar_3b067 : GoodIn wsJ2_indexOfSupplementary_4cfef (va_wsS RJ2 71 yJ2_getChar_3b067 wsJ2_getChar_3b067) := goodIn_app (goodIn_of _ (by decide +kernel)) ggJ2_indexOfSupplementary_4cfef_J2_getChar_3b067
theorem dJ2_indexOfSupplementary_4cfef_0 : decode cJ2_indexOfSupplementary_4cfef 0 = .ok (.iload_n 1, 1) := by decide +kernel
theorem dJ2_indexOfSupplementary_4cfef_1 : decode cJ2_indexOfSupplementary_4cfef 1 = .ok (.invokestatic 164, 3) := by decide +kernel
theorem dJ2_indexOfSupplementary_4cfef_4 : decode cJ2_indexOfSupplementary_4cfef 4 = .ok (.ifCond .eq 65, 3) := by decide +kernel
theorem dJ2_indexOfSupplementary_4cfef_7 : decode cJ2_indexOfSupplementary_4cfef 7 = .ok (.iload_n 1, 1) := by decide +kernel
theorem dJ2_indexOfSupplementary_4cfef_8 : decode cJ2_indexOfSupplementary_4cfef 8 = .ok (.invokestatic 157, 3) := by decide +kernel
theorem dJ2_indexOfSupplementary_4cfef_11 : decode cJ2_indexOfSupplementary_4cfef 11 = .ok (.istore 4, 2) := by decide +kernel
theorem dJ2_indexOfSupplementary_4cfef_13 : decode cJ2_indexOfSupplementary_4cfef 13 = .ok (.iload_n 1, 1) := by decide +kernel
theorem dJ2_indexOfSupplementary_4cfef_14 : decode cJ2_indexOfSupplementary_4cfef 14 = .ok (.invokestatic 161, 3) := by decide +kernel
theorem dJ2_indexOfSupplementary_4cfef_17 : decode cJ2_indexOfSupplementary_4cfef 17 = .ok (.istore 5, 2) := by decide +kernel
theorem dJ2_indexOfSupplementary_4cfef_19 : decode cJ2_indexOfSupplementary_4cfef 19 = .ok (.iload_n 2, 1) := by decide +kernel
theorem dJ2_indexOfSupplementary_4cfef_20 : decode cJ2_indexOfSupplementary_4cfef 20 = .ok (.iload_n 3, 1) := by decide +kernel
theorem dJ2_indexOfSupplementary_4cfef_21 : decode cJ2_indexOfSupplementary_4cfef 21 = .ok (.aload_n 0, 1) := by decide +kernel
theorem dJ2_indexOfSupplementary_4cfef_22 : decode cJ2_indexOfSupplementary_4cfef 22 = .ok (.invokestatic 96, 3) := by decide +kernel
theorem dJ2_indexOfSupplementary_4cfef_25 : decode cJ2_indexOfSupplementary_4cfef 25 = .ok (.iload_n 2, 1) := by decide +kernel
theorem dJ2_indexOfSupplementary_4cfef_26 : decode cJ2_indexOfSupplementary_4cfef 26 = .ok (.istore 6, 2) := by decide +kernel
theorem dJ2_indexOfSupplementary_4cfef_28 : decode cJ2_indexOfSupplementary_4cfef 28 = .ok (.iload 6, 2) := by decide +kernel
theorem dJ2_indexOfSupplementary_4cfef_30 : decode cJ2_indexOfSupplementary_4cfef 30 = .ok (.iload_n 3, 1) := by decide +kernel
theorem dJ2_indexOfSupplementary_4cfef_31 : decode cJ2_indexOfSupplementary_4cfef 31 = .ok (.iconst 1, 1) := by decide +kernel
theorem dJ2_indexOfSupplementary_4cfef_32 : decode cJ2_indexOfSupplementary_4cfef 32 = .ok (.isub, 1) := by decide +kernel
theorem dJ2_indexOfSupplementary_4cfef_33 : decode cJ2_indexOfSupplementary_4cfef 33 = .ok (.if_icmp .ge 36, 3) := by decide +kernel
theorem dJ2_indexOfSupplementary_4cfef_36 : decode cJ2_indexOfSupplementary_4cfef 36 = .ok (.aload_n 0, 1) := by decide +kernel
theorem dJ2_indexOfSupplementary_4cfef_37 : decode cJ2_indexOfSupplementary_4cfef 37 = .ok (.iload 6, 2) := by decide +kernel
theorem dJ2_indexOfSupplementary_4cfef_39 : decode cJ2_indexOfSupplementary_4cfef 39 = .ok (.invokestatic 71, 3) := by decide +kernel
theorem dJ2_indexOfSupplementary_4cfef_42 : decode cJ2_indexOfSupplementary_4cfef 42 = .ok (.iload 4, 2) := by decide +kernel
theorem dJ2_indexOfSupplementary_4cfef_44 : decode cJ2_indexOfSupplementary_4cfef 44 = .ok (.if_icmp .ne 19, 3) := by decide +kernel
theorem dJ2_indexOfSupplementary_4cfef_47 : decode cJ2_indexOfSupplementary_4cfef 47 = .ok (.aload_n 0, 1) := by decide +kernel
theorem dJ2_indexOfSupplementary_4cfef_48 : decode cJ2_indexOfSupplementary_4cfef 48 = .ok (.iload 6, 2) := by decide +kernel
theorem dJ2_indexOfSupplementary_4cfef_50 : decode cJ2_indexOfSupplementary_4cfef 50 = .ok (.iconst 1, 1) := by decide +kernel
theorem dJ2_indexOfSupplementary_4cfef_51 : decode cJ2_indexOfSupplementary_4cfef 51 = .ok (.iadd, 1) := by decide +kernel
theorem dJ2_indexOfSupplementary_4cfef_52 : decode cJ2_indexOfSupplementary_4cfef 52 = .ok (.invokestatic 71, 3) := by decide +kernel
theorem dJ2_indexOfSupplementary_4cfef_55 : decode cJ2_indexOfSupplementary_4cfef 55 = .ok (.iload 5, 2) := by decide +kernel
theorem dJ2_indexOfSupplementary_4cfef_57 : decode cJ2_indexOfSupplementary_4cfef 57 = .ok (.if_icmp .ne 6, 3) := by decide +kernel
theorem dJ2_indexOfSupplementary_4cfef_60 : decode cJ2_indexOfSupplementary_4cfef 60 = .ok (.iload 6, 2) := by decide +kernel
theorem dJ2_indexOfSupplementary_4cfef_62 : decode cJ2_indexOfSupplementary_4cfef 62 = .ok (.ireturn, 1) := by decide +kernel
theorem dJ2_indexOfSupplementary_4cfef_63 : decode cJ2_indexOfSupplementary_4cfef 63 = .ok (.iinc 6 1, 3) := by decide +kernel
theorem dJ2_indexOfSupplementary_4cfef_66 : decode cJ2_indexOfSupplementary_4cfef 66 = .ok (.goto (-38), 3) := by decide +kernel
theorem dJ2_indexOfSupplementary_4cfef_69 : decode cJ2_indexOfSupplementary_4cfef 69 = .ok (.iconst (-1), 1) := by decide +kernel
theorem dJ2_indexOfSupplementary_4cfef_70 : decode cJ2_indexOfSupplementary_4cfef 70 = .ok (.ireturn, 1) := by decide +kernel
set_option maxRecDepth 20000 in
theorem ggJ2_checkBoundsBeginEnd_d044e_J2_length_9d52b : GoodIn wsJ2_checkBoundsBeginEnd_d044e wsJ2_length_9d52b := goodIn_r _ [4] (by decide +kernel) (by decide +kernel)
set_option maxRecDepth 20000 in
theorem gJ2_checkBoundsBeginEnd_d044e_J2_length_9d52b : GoodIn wsJ2_checkBoundsBeginEnd_d044e (va_wsS RJ2 48 yJ2_length_9d52b wsJ2_length_9d52b) := goodIn_app (goodIn_of _ (by decide +kernel)) ggJ2_checkBoundsBeginEnd_d044e_J2_length_9d52b
set_option maxRecDepth 20000 in
theorem ggJ2_checkBoundsBeginEnd_d044e_J0_checkBoundsBeginEnd_23922 : GoodIn wsJ2_checkBoundsBeginEnd_d044e wsJ0_checkBoundsBeginEnd_23922 := goodIn_r _ [8, 9, 10, 11, 12, 13] (by decide +kernel) (by decide +kernel)
set_option maxRecDepth 20000 in
theorem gJ2_checkBoundsBeginEnd_d044e_J0_checkBoundsBeginEnd_23922 : GoodIn wsJ2_checkBoundsBeginEnd_d044e (va_wsS RJ2 241 yJ0_checkBoundsBeginEnd_23922 wsJ0_checkBoundsBeginEnd_23922) := goodIn_app (goodIn_of _ (by decide +kernel)) ggJ2_checkBoundsBeginEnd_d044e_J0_checkBoundsBeginEnd_23922
theorem dJ2_checkBoundsBeginEnd_d044e_0 : decode cJ2_checkBoundsBeginEnd_d044e 0 = .ok (.iload_n 0, 1) := by decide +kernel
theorem dJ2_checkBoundsBeginEnd_d044e_1 : decode cJ2_checkBoundsBeginEnd_d044e 1 = .ok (.iload_n 1, 1) := by decide +kernel
theorem dJ2_checkBoundsBeginEnd_d044e_2 : decode cJ2_checkBoundsBeginEnd_d044e 2 = .ok (.aload_n 2, 1) := by decide +kernel
theorem dJ2_checkBoundsBeginEnd_d044e_3 : decode cJ2_checkBoundsBeginEnd_d044e 3 = .ok (.invokestatic 48, 3) := by decide +kernel
theorem dJ2_checkBoundsBeginEnd_d044e_6 : decode cJ2_checkBoundsBeginEnd_d044e 6 = .ok (.invokestatic 241, 3) := by decide +kernel
theorem dJ2_checkBoundsBeginEnd_d044e_9 : decode cJ2_checkBoundsBeginEnd_d044e 9 = .ok (.return_, 1) := by decide +kernel
theorem dJ7_fill_53178_0 : decode cJ7_fill_53178 0 = .ok (.iconst 0, 1) := by decide +kernel
theorem dJ7_fill_53178_1 : decode cJ7_fill_53178 1 = .ok (.istore_n 2, 1) := by decide +kernel
theorem dJ7_fill_53178_2 : decode cJ7_fill_53178 2 = .ok (.aload_n 0, 1) := by decide +kernel
end
section
theorem dJ7_fill_53178_3 : decode cJ7_fill_53178 3 = .ok (.arraylength, 1) := by decide +kernel
theorem dJ7_fill_53178_4 : decode cJ7_fill_53178 4 = .ok (.istore_n 3, 1) := by decide +kernel
theorem dJ7_fill_53178_5 : decode cJ7_fill_53178 5 = .ok (.iload_n 2, 1) := by decide +kernel
theorem dJ7_fill_53178_6 : decode cJ7_fill_53178 6 = .ok (.iload_n 3, 1) := by decide +kernel
theorem dJ7_fill_53178_7 : decode cJ7_fill_53178 7 = .ok (.if_icmp .ge 13, 3) := by decide +kernel
theorem dJ7_fill_53178_10 : decode cJ7_fill_53178 10 = .ok (.aload_n 0, 1) := by decide +kernel
theorem dJ7_fill_53178_11 : decode cJ7_fill_53178 11 = .ok (.iload_n 2, 1) := by decide +kernel
theorem dJ7_fill_53178_12 : decode cJ7_fill_53178 12 = .ok (.iload_n 1, 1) := by decide +kernel
theorem dJ7_fill_53178_13 : decode cJ7_fill_53178 13 = .ok (.iastore, 1) := by decide +kernel
theorem dJ7_fill_53178_14 : decode cJ7_fill_53178 14 = .ok (.iinc 2 1, 3) := by decide +kernel
theorem dJ7_fill_53178_17 : decode cJ7_fill_53178 17 = .ok (.goto (-12), 3) := by decide +kernel
theorem dJ7_fill_53178_20 : decode cJ7_fill_53178 20 = .ok (.return_, 1) := by decide +kernel
theorem dJ3_checkFromToIndex_8c36e_0 : decode cJ3_checkFromToIndex_8c36e 0 = .ok (.iload_n 0, 1) := by decide +kernel
theorem dJ3_checkFromToIndex_8c36e_1 : decode cJ3_checkFromToIndex_8c36e 1 = .ok (.ifCond .lt 13, 3) := by decide +kernel
theorem dJ3_checkFromToIndex_8c36e_4 : decode cJ3_checkFromToIndex_8c36e 4 = .ok (.iload_n 0, 1) := by decide +kernel
theorem dJ3_checkFromToIndex_8c36e_5 : decode cJ3_checkFromToIndex_8c36e 5 = .ok (.iload_n 1, 1) := by decide +kernel
theorem dJ3_checkFromToIndex_8c36e_6 : decode cJ3_checkFromToIndex_8c36e 6 = .ok (.if_icmp .gt 8, 3) := by decide +kernel
theorem dJ3_checkFromToIndex_8c36e_9 : decode cJ3_checkFromToIndex_8c36e 9 = .ok (.iload_n 1, 1) := by decide +kernel
theorem dJ3_checkFromToIndex_8c36e_10 : decode cJ3_checkFromToIndex_8c36e 10 = .ok (.iload_n 2, 1) := by decide +kernel
theorem dJ3_checkFromToIndex_8c36e_11 : decode cJ3_checkFromToIndex_8c36e 11 = .ok (.if_icmp .le 11, 3) := by decide +kernel
theorem dJ3_checkFromToIndex_8c36e_14 : decode cJ3_checkFromToIndex_8c36e 14 = .ok (.aload_n 3, 1) := by decide +kernel
theorem dJ3_checkFromToIndex_8c36e_15 : decode cJ3_checkFromToIndex_8c36e 15 = .ok (.iload_n 0, 1) := by decide +kernel
theorem dJ3_checkFromToIndex_8c36e_16 : decode cJ3_checkFromToIndex_8c36e 16 = .ok (.iload_n 1, 1) := by decide +kernel
theorem dJ3_checkFromToIndex_8c36e_17 : decode cJ3_checkFromToIndex_8c36e 17 = .ok (.iload_n 2, 1) := by decide +kernel
theorem dJ3_checkFromToIndex_8c36e_18 : decode cJ3_checkFromToIndex_8c36e 18 = .ok (.invokestatic 99, 3) := by decide +kernel
theorem dJ3_checkFromToIndex_8c36e_21 : decode cJ3_checkFromToIndex_8c36e 21 = .ok (.athrow, 1) := by decide +kernel
theorem dJ3_checkFromToIndex_8c36e_22 : decode cJ3_checkFromToIndex_8c36e 22 = .ok (.iload_n 0, 1) := by decide +kernel
theorem dJ3_checkFromToIndex_8c36e_23 : decode cJ3_checkFromToIndex_8c36e 23 = .ok (.ireturn, 1) := by decide +kernel
end
section
/-! OUR OWN ROWS: one judgement vv_, in which world, locals and frame are carried along; a row an instruction -/
def vv_ (p : Program) (l : Launch) (e : Env) (R : Room) (s : State) (m : MethodId) (args : Array Value) (below : List Frame) (meth : Method) (c : Code) (D : va_G) (A : Nat → Prop) (nL : Nat) (Q : State → Prop) (n k : Nat) (w : va_W) (lv : List (Nat × Value)) (pc : Nat) (st : List Value) : Prop :=
  ∀ (H : Heap) (locs : List Loc) (ls : Array Slot), va_P D vwCl w H → va_D A w → va_S A s.heap H locs → lv_has ls nL lv → W p l e R s m args below meth c H locs n k Q (F0 m pc ls st)
def vv_X (p : Program) (s : State) (m : MethodId) (args : Array Value) (meth : Method) (c : Code) (D : va_G) (tys : List (ClassId × FieldType)) (A : Nat → Prop) (nL : Nat) (cc : ByteArray) (own : String) (Ts : List Cond) : Prop :=
  CallFix p m c cc nL s args Ts own ∧ va_K D vwCl tys s ∧ (∀ q : Nat, s.heap.size ≤ q → A q)
section VVA
variable {p : Program} {l : Launch} {e : Env} {R : Room} {s : State} {m : MethodId} {args : Array Value} {below : List Frame} {meth : Method} {c : Code} {D : va_G} {tys : List (ClassId × FieldType)} {A : Nat → Prop} {nL : Nat} {Q : State → Prop} {n k : Nat} {w : va_W} {lv : List (Nat × Value)} {pc : Nat} {st : List Value}
variable {cc : ByteArray} {own : String} {Ts : List Cond}
theorem vv_lv {lv' : List (Nat × Value)} (ks : List Nat) (hl : lv_pick lv ks = lv') (h : vv_ p l e R s m args below meth c D A nL Q n k w lv' pc st) : vv_ p l e R s m args below meth c D A nL Q n k w lv pc st := fun H locs ls hP hD hS hL => h H locs ls hP hD hS (lv_sub hL ks hl)
theorem vv_w {w' : va_W} (hw : w = w') (h : vv_ p l e R s m args below meth c D A nL Q n k w' lv pc st) : vv_ p l e R s m args below meth c D A nL Q n k w lv pc st := by
  subst hw
  exact h
theorem vv_st {st' : List Value} (hs : st = st') (h : vv_ p l e R s m args below meth c D A nL Q n k w lv pc st') : vv_ p l e R s m args below meth c D A nL Q n k w lv pc st := by
  subst hs
  exact h
theorem vv_wide {n' k' : Nat} (hn : n ≤ n') (hk : k ≤ k') (h : vv_ p l e R s m args below meth c D A nL Q n' k' w lv pc st) : vv_ p l e R s m args below meth c D A nL Q n k w lv pc st := fun H locs ls hP hD hS hL => W.widen hn hk (h H locs ls hP hD hS hL)
theorem vv_iconst (C : vv_X p s m args meth c D tys A nL cc own Ts) {i : Int} {v : Int32} (hd : decode cc pc = .ok (.iconst i, 1)) (hv : Int32.ofInt i = v) (h : vv_ p l e R s m args below meth c D A nL Q n k w lv (pc + 1) (.int v :: st)) : vv_ p l e R s m args below meth c D A nL Q n k w lv pc st := fun H locs ls hP hD hS hL => lv_iconst C.1.1 C.1.2.1 hd hv (h H locs ls hP hD hS hL)
theorem vv_bipush (C : vv_X p s m args meth c D tys A nL cc own Ts) {i : Int} {v : Int32} (hd : decode cc pc = .ok (.bipush i, 2)) (hv : (Int8.ofInt i).toInt32 = v) (h : vv_ p l e R s m args below meth c D A nL Q n k w lv (pc + 2) (.int v :: st)) : vv_ p l e R s m args below meth c D A nL Q n k w lv pc st := fun H locs ls hP hD hS hL => lv_bipush C.1.1 C.1.2.1 hd hv (h H locs ls hP hD hS hL)
theorem vv_sipush (C : vv_X p s m args meth c D tys A nL cc own Ts) {i : Int} {v : Int32} (hd : decode cc pc = .ok (.sipush i, 3)) (hv : (Int16.ofInt i).toInt32 = v) (h : vv_ p l e R s m args below meth c D A nL Q n k w lv (pc + 3) (.int v :: st)) : vv_ p l e R s m args below meth c D A nL Q n k w lv pc st := fun H locs ls hP hD hS hL => lv_sipush C.1.1 C.1.2.1 hd hv (h H locs ls hP hD hS hL)
theorem vv_iload_n (C : vv_X p s m args meth c D tys A nL cc own Ts) {i : Fin 4} {x : Int32} (hd : decode cc pc = .ok (.iload_n i, 1)) (q : Nat) (hl : lv[q]? = some ((i : Nat), .int x)) (h : vv_ p l e R s m args below meth c D A nL Q n k w lv (pc + 1) (.int x :: st)) : vv_ p l e R s m args below meth c D A nL Q n k w lv pc st := fun H locs ls hP hD hS hL => lv_iload_n C.1.1 C.1.2.1 hd rfl (lv_at hL q hl) (h H locs ls hP hD hS hL)
theorem vv_iload (C : vv_X p s m args meth c D tys A nL cc own Ts) {i : Nat} {x : Int32} (hd : decode cc pc = .ok (.iload i, 2)) (q : Nat) (hl : lv[q]? = some (i, .int x)) (h : vv_ p l e R s m args below meth c D A nL Q n k w lv (pc + 2) (.int x :: st)) : vv_ p l e R s m args below meth c D A nL Q n k w lv pc st := fun H locs ls hP hD hS hL => lv_iload C.1.1 C.1.2.1 hd (lv_at hL q hl) (h H locs ls hP hD hS hL)
theorem vv_aload_n (C : vv_X p s m args meth c D tys A nL cc own Ts) {i : Fin 4} {x : Nat} (hd : decode cc pc = .ok (.aload_n i, 1)) (q : Nat) (hl : lv[q]? = some ((i : Nat), .ref x)) (h : vv_ p l e R s m args below meth c D A nL Q n k w lv (pc + 1) (.ref x :: st)) : vv_ p l e R s m args below meth c D A nL Q n k w lv pc st := fun H locs ls hP hD hS hL => lv_aload_n C.1.1 C.1.2.1 hd rfl (lv_at hL q hl) (h H locs ls hP hD hS hL)
theorem vv_aload (C : vv_X p s m args meth c D tys A nL cc own Ts) {i : Nat} {x : Nat} (hd : decode cc pc = .ok (.aload i, 2)) (q : Nat) (hl : lv[q]? = some (i, .ref x)) (h : vv_ p l e R s m args below meth c D A nL Q n k w lv (pc + 2) (.ref x :: st)) : vv_ p l e R s m args below meth c D A nL Q n k w lv pc st := fun H locs ls hP hD hS hL => lv_aload C.1.1 C.1.2.1 hd (lv_at hL q hl) (h H locs ls hP hD hS hL)
theorem vv_aload_nN (C : vv_X p s m args meth c D tys A nL cc own Ts) {i : Fin 4} (hd : decode cc pc = .ok (.aload_n i, 1)) (q : Nat) (hl : lv[q]? = some ((i : Nat), .null)) (h : vv_ p l e R s m args below meth c D A nL Q n k w lv (pc + 1) (.null :: st)) : vv_ p l e R s m args below meth c D A nL Q n k w lv pc st := fun H locs ls hP hD hS hL => lv_aload_nN C.1.1 C.1.2.1 hd rfl (lv_at hL q hl) (h H locs ls hP hD hS hL)
theorem vv_aloadN (C : vv_X p s m args meth c D tys A nL cc own Ts) {i : Nat} (hd : decode cc pc = .ok (.aload i, 2)) (q : Nat) (hl : lv[q]? = some (i, .null)) (h : vv_ p l e R s m args below meth c D A nL Q n k w lv (pc + 2) (.null :: st)) : vv_ p l e R s m args below meth c D A nL Q n k w lv pc st := fun H locs ls hP hD hS hL => lv_aloadN C.1.1 C.1.2.1 hd (lv_at hL q hl) (h H locs ls hP hD hS hL)
theorem vv_istore_n (C : vv_X p s m args meth c D tys A nL cc own Ts) {i : Fin 4} {x : Int32} {lv' : List (Nat × Value)} (hd : decode cc pc = .ok (.istore_n i, 1)) (hn : (i : Nat) < nL) (hl : ((i : Nat), Value.int x) :: lv.filter (fun q => !(q.1 == (i : Nat)) && !(q.1 + 1 == (i : Nat) && q.2.category == 2)) = lv') (h : vv_ p l e R s m args below meth c D A nL Q n k w lv' (pc + 1) st) : vv_ p l e R s m args below meth c D A nL Q n k w lv pc (.int x :: st) := fun H locs ls hP hD hS hL => lv_istore_n C.1.1 C.1.2.1 hd rfl hL hn hl (fun ls' hL' => h H locs ls' hP hD hS hL')
theorem vv_istore (C : vv_X p s m args meth c D tys A nL cc own Ts) {i : Nat} {x : Int32} {lv' : List (Nat × Value)} (hd : decode cc pc = .ok (.istore i, 2)) (hn : i < nL) (hl : (i, Value.int x) :: lv.filter (fun q => !(q.1 == i) && !(q.1 + 1 == i && q.2.category == 2)) = lv') (h : vv_ p l e R s m args below meth c D A nL Q n k w lv' (pc + 2) st) : vv_ p l e R s m args below meth c D A nL Q n k w lv pc (.int x :: st) := fun H locs ls hP hD hS hL => lv_istore C.1.1 C.1.2.1 hd hL hn hl (fun ls' hL' => h H locs ls' hP hD hS hL')
theorem vv_astore_n (C : vv_X p s m args meth c D tys A nL cc own Ts) {i : Fin 4} {x : Nat} {lv' : List (Nat × Value)} (hd : decode cc pc = .ok (.astore_n i, 1)) (hn : (i : Nat) < nL) (hl : ((i : Nat), Value.ref x) :: lv.filter (fun q => !(q.1 == (i : Nat)) && !(q.1 + 1 == (i : Nat) && q.2.category == 2)) = lv') (h : vv_ p l e R s m args below meth c D A nL Q n k w lv' (pc + 1) st) : vv_ p l e R s m args below meth c D A nL Q n k w lv pc (.ref x :: st) := fun H locs ls hP hD hS hL => lv_astore_n C.1.1 C.1.2.1 hd rfl hL hn hl (fun ls' hL' => h H locs ls' hP hD hS hL')
theorem vv_astore (C : vv_X p s m args meth c D tys A nL cc own Ts) {i : Nat} {x : Nat} {lv' : List (Nat × Value)} (hd : decode cc pc = .ok (.astore i, 2)) (hn : i < nL) (hl : (i, Value.ref x) :: lv.filter (fun q => !(q.1 == i) && !(q.1 + 1 == i && q.2.category == 2)) = lv') (h : vv_ p l e R s m args below meth c D A nL Q n k w lv' (pc + 2) st) : vv_ p l e R s m args below meth c D A nL Q n k w lv pc (.ref x :: st) := fun H locs ls hP hD hS hL => lv_astore C.1.1 C.1.2.1 hd hL hn hl (fun ls' hL' => h H locs ls' hP hD hS hL')
theorem vv_astore_nN (C : vv_X p s m args meth c D tys A nL cc own Ts) {i : Fin 4} {lv' : List (Nat × Value)} (hd : decode cc pc = .ok (.astore_n i, 1)) (hn : (i : Nat) < nL) (hl : ((i : Nat), Value.null) :: lv.filter (fun q => !(q.1 == (i : Nat)) && !(q.1 + 1 == (i : Nat) && q.2.category == 2)) = lv') (h : vv_ p l e R s m args below meth c D A nL Q n k w lv' (pc + 1) st) : vv_ p l e R s m args below meth c D A nL Q n k w lv pc (.null :: st) := fun H locs ls hP hD hS hL => lv_astore_nN C.1.1 C.1.2.1 hd rfl hL hn hl (fun ls' hL' => h H locs ls' hP hD hS hL')
theorem vv_astoreN (C : vv_X p s m args meth c D tys A nL cc own Ts) {i : Nat} {lv' : List (Nat × Value)} (hd : decode cc pc = .ok (.astore i, 2)) (hn : i < nL) (hl : (i, Value.null) :: lv.filter (fun q => !(q.1 == i) && !(q.1 + 1 == i && q.2.category == 2)) = lv') (h : vv_ p l e R s m args below meth c D A nL Q n k w lv' (pc + 2) st) : vv_ p l e R s m args below meth c D A nL Q n k w lv pc (.null :: st) := fun H locs ls hP hD hS hL => lv_astoreN C.1.1 C.1.2.1 hd hL hn hl (fun ls' hL' => h H locs ls' hP hD hS hL')
theorem vv_iinc (C : vv_X p s m args meth c D tys A nL cc own Ts) {i q : Nat} {d : Int} {x v : Int32} {lv' : List (Nat × Value)} (hd : decode cc pc = .ok (.iinc i d, 3)) (hk : lv[q]? = some (i, .int x)) (hv : x + Int32.ofInt d = v) (hn : i < nL) (hl : (i, Value.int v) :: lv.filter (fun q => !(q.1 == i) && !(q.1 + 1 == i && q.2.category == 2)) = lv') (h : vv_ p l e R s m args below meth c D A nL Q n k w lv' (pc + 3) st) : vv_ p l e R s m args below meth c D A nL Q n k w lv pc st := fun H locs ls hP hD hS hL => lv_iinc C.1.1 C.1.2.1 hd hL hk hv hn hl (fun ls' hL' => h H locs ls' hP hD hS hL')
theorem vv_iadd (C : vv_X p s m args meth c D tys A nL cc own Ts) {x y : Int32} (hd : decode cc pc = .ok (.iadd, 1)) (h : vv_ p l e R s m args below meth c D A nL Q n k w lv (pc + 1) (.int (x + y) :: st)) : vv_ p l e R s m args below meth c D A nL Q n k w lv pc (.int y :: .int x :: st) := fun H locs ls hP hD hS hL => lv_iadd C.1.1 C.1.2.1 hd (h H locs ls hP hD hS hL)
theorem vv_isub (C : vv_X p s m args meth c D tys A nL cc own Ts) {x y : Int32} (hd : decode cc pc = .ok (.isub, 1)) (h : vv_ p l e R s m args below meth c D A nL Q n k w lv (pc + 1) (.int (x - y) :: st)) : vv_ p l e R s m args below meth c D A nL Q n k w lv pc (.int y :: .int x :: st) := fun H locs ls hP hD hS hL => lv_isub C.1.1 C.1.2.1 hd (h H locs ls hP hD hS hL)
theorem vv_imul (C : vv_X p s m args meth c D tys A nL cc own Ts) {x y : Int32} (hd : decode cc pc = .ok (.imul, 1)) (h : vv_ p l e R s m args below meth c D A nL Q n k w lv (pc + 1) (.int (x * y) :: st)) : vv_ p l e R s m args below meth c D A nL Q n k w lv pc (.int y :: .int x :: st) := fun H locs ls hP hD hS hL => lv_imul C.1.1 C.1.2.1 hd (h H locs ls hP hD hS hL)
theorem vv_iand (C : vv_X p s m args meth c D tys A nL cc own Ts) {x y : Int32} (hd : decode cc pc = .ok (.iand, 1)) (h : vv_ p l e R s m args below meth c D A nL Q n k w lv (pc + 1) (.int (x &&& y) :: st)) : vv_ p l e R s m args below meth c D A nL Q n k w lv pc (.int y :: .int x :: st) := fun H locs ls hP hD hS hL => lv_iand C.1.1 C.1.2.1 hd (h H locs ls hP hD hS hL)
theorem vv_ior (C : vv_X p s m args meth c D tys A nL cc own Ts) {x y : Int32} (hd : decode cc pc = .ok (.ior, 1)) (h : vv_ p l e R s m args below meth c D A nL Q n k w lv (pc + 1) (.int (x ||| y) :: st)) : vv_ p l e R s m args below meth c D A nL Q n k w lv pc (.int y :: .int x :: st) := fun H locs ls hP hD hS hL => lv_ior C.1.1 C.1.2.1 hd (h H locs ls hP hD hS hL)
theorem vv_ixor (C : vv_X p s m args meth c D tys A nL cc own Ts) {x y : Int32} (hd : decode cc pc = .ok (.ixor, 1)) (h : vv_ p l e R s m args below meth c D A nL Q n k w lv (pc + 1) (.int (x ^^^ y) :: st)) : vv_ p l e R s m args below meth c D A nL Q n k w lv pc (.int y :: .int x :: st) := fun H locs ls hP hD hS hL => lv_ixor C.1.1 C.1.2.1 hd (h H locs ls hP hD hS hL)
theorem vv_idiv (C : vv_X p s m args meth c D tys A nL cc own Ts) {x y : Int32} (hd : decode cc pc = .ok (.idiv, 1)) (hne : ¬ y = 0) (h : vv_ p l e R s m args below meth c D A nL Q n k w lv (pc + 1) (.int (x / y) :: st)) : vv_ p l e R s m args below meth c D A nL Q n k w lv pc (.int y :: .int x :: st) := fun H locs ls hP hD hS hL => lv_idiv C.1.1 C.1.2.1 hd hne (h H locs ls hP hD hS hL)
theorem vv_irem (C : vv_X p s m args meth c D tys A nL cc own Ts) {x y : Int32} (hd : decode cc pc = .ok (.irem, 1)) (hne : ¬ y = 0) (h : vv_ p l e R s m args below meth c D A nL Q n k w lv (pc + 1) (.int (x - x / y * y) :: st)) : vv_ p l e R s m args below meth c D A nL Q n k w lv pc (.int y :: .int x :: st) := fun H locs ls hP hD hS hL => lv_irem C.1.1 C.1.2.1 hd hne (h H locs ls hP hD hS hL)
theorem vv_ineg (C : vv_X p s m args meth c D tys A nL cc own Ts) {x : Int32} (hd : decode cc pc = .ok (.ineg, 1)) (h : vv_ p l e R s m args below meth c D A nL Q n k w lv (pc + 1) (.int (-x) :: st)) : vv_ p l e R s m args below meth c D A nL Q n k w lv pc (.int x :: st) := fun H locs ls hP hD hS hL => lv_ineg C.1.1 C.1.2.1 hd (h H locs ls hP hD hS hL)
theorem vv_ishl (C : vv_X p s m args meth c D tys A nL cc own Ts) {x y : Int32} (hd : decode cc pc = .ok (.ishl, 1)) (h : vv_ p l e R s m args below meth c D A nL Q n k w lv (pc + 1) (.int (x <<< (y &&& 31)) :: st)) : vv_ p l e R s m args below meth c D A nL Q n k w lv pc (.int y :: .int x :: st) := fun H locs ls hP hD hS hL => lv_ishl C.1.1 C.1.2.1 hd (h H locs ls hP hD hS hL)
theorem vv_ishr (C : vv_X p s m args meth c D tys A nL cc own Ts) {x y : Int32} (hd : decode cc pc = .ok (.ishr, 1)) (h : vv_ p l e R s m args below meth c D A nL Q n k w lv (pc + 1) (.int (x >>> (y &&& 31)) :: st)) : vv_ p l e R s m args below meth c D A nL Q n k w lv pc (.int y :: .int x :: st) := fun H locs ls hP hD hS hL => lv_ishr C.1.1 C.1.2.1 hd (h H locs ls hP hD hS hL)
def ushr_ (x y : Int32) : Int32 := (x.toUInt32 >>> (y.toUInt32 &&& Int32.toUInt32 31)).toInt32
theorem vv_iushr (C : vv_X p s m args meth c D tys A nL cc own Ts) {x y : Int32} (hd : decode cc pc = .ok (.iushr, 1)) (h : vv_ p l e R s m args below meth c D A nL Q n k w lv (pc + 1) (.int (ushr_ x y) :: st)) : vv_ p l e R s m args below meth c D A nL Q n k w lv pc (.int y :: .int x :: st) := fun H locs ls hP hD hS hL => lv_iushr C.1.1 C.1.2.1 hd rfl (h H locs ls hP hD hS hL)
def i2c_ (x : Int32) : Int32 := (x.toUInt32 % 65536).toInt32
theorem vv_i2c (C : vv_X p s m args meth c D tys A nL cc own Ts) {x : Int32} (hd : decode cc pc = .ok (.i2c, 1)) (h : vv_ p l e R s m args below meth c D A nL Q n k w lv (pc + 1) (.int (i2c_ x) :: st)) : vv_ p l e R s m args below meth c D A nL Q n k w lv pc (.int x :: st) := fun H locs ls hP hD hS hL => lv_i2c C.1.1 C.1.2.1 hd rfl (h H locs ls hP hD hS hL)
def i2b_ (x : Int32) : Int32 := x.toInt8.toInt32
theorem vv_i2b (C : vv_X p s m args meth c D tys A nL cc own Ts) {x : Int32} (hd : decode cc pc = .ok (.i2b, 1)) (h : vv_ p l e R s m args below meth c D A nL Q n k w lv (pc + 1) (.int (i2b_ x) :: st)) : vv_ p l e R s m args below meth c D A nL Q n k w lv pc (.int x :: st) := fun H locs ls hP hD hS hL => lv_i2b C.1.1 C.1.2.1 hd rfl (h H locs ls hP hD hS hL)
theorem vv_dup (C : vv_X p s m args meth c D tys A nL cc own Ts) {v : Value} (hd : decode cc pc = .ok (.dup, 1)) (hv : v.category = 1) (h : vv_ p l e R s m args below meth c D A nL Q n k w lv (pc + 1) (v :: v :: st)) : vv_ p l e R s m args below meth c D A nL Q n k w lv pc (v :: st) := fun H locs ls hP hD hS hL => lv_dup C.1.1 C.1.2.1 hd hv (h H locs ls hP hD hS hL)
theorem vv_dup2 (C : vv_X p s m args meth c D tys A nL cc own Ts) {v u : Value} (hd : decode cc pc = .ok (.dup2, 1)) (hv : v.category = 1) (hu : u.category = 1) (h : vv_ p l e R s m args below meth c D A nL Q n k w lv (pc + 1) (v :: u :: v :: u :: st)) : vv_ p l e R s m args below meth c D A nL Q n k w lv pc (v :: u :: st) := fun H locs ls hP hD hS hL => lv_dup2_11 C.1.1 C.1.2.1 hd hv hu (h H locs ls hP hD hS hL)
theorem vv_goto (C : vv_X p s m args meth c D tys A nL cc own Ts) {off : Int} {tgt : Nat} (hd : decode cc pc = .ok (.goto off, 3)) (ht : (pc : Int) + off = (tgt : Int)) (h : vv_ p l e R s m args below meth c D A nL Q n k w lv tgt st) : vv_ p l e R s m args below meth c D A nL Q n k w lv pc st := fun H locs ls hP hD hS hL => lv_goto C.1.1 C.1.2.1 hd ht (h H locs ls hP hD hS hL)
theorem vv_if_eq {α : Type} {FA FB : Option α} {res : α} (C : vv_X p s m args meth c D tys A nL cc own Ts) {x : Int32} {off : Int} {tgt : Nat} (hd : decode cc pc = .ok (.ifCond .eq off, 3)) (ht : (pc : Int) + off = (tgt : Int)) (hF : (if x = 0 then FA else FB) = some res) (kt : x = 0 → FA = some res → vv_ p l e R s m args below meth c D A nL Q n k w lv tgt st) (kf : ¬ x = 0 → FB = some res → vv_ p l e R s m args below meth c D A nL Q n k w lv (pc + 3) st) : vv_ p l e R s m args below meth c D A nL Q n k w lv pc (.int x :: st) := fun H locs ls hP hD hS hL => lv_if_eq C.1.1 C.1.2.1 hd ht (fun q => kt q (by rw [if_pos q] at hF; exact hF) H locs ls hP hD hS hL) (fun q => kf q (by rw [if_neg q] at hF; exact hF) H locs ls hP hD hS hL)
theorem vv_if_ne {α : Type} {FA FB : Option α} {res : α} (C : vv_X p s m args meth c D tys A nL cc own Ts) {x : Int32} {off : Int} {tgt : Nat} (hd : decode cc pc = .ok (.ifCond .ne off, 3)) (ht : (pc : Int) + off = (tgt : Int)) (hF : (if x = 0 then FB else FA) = some res) (kt : ¬ x = 0 → FA = some res → vv_ p l e R s m args below meth c D A nL Q n k w lv tgt st) (kf : x = 0 → FB = some res → vv_ p l e R s m args below meth c D A nL Q n k w lv (pc + 3) st) : vv_ p l e R s m args below meth c D A nL Q n k w lv pc (.int x :: st) := fun H locs ls hP hD hS hL => lv_if_ne C.1.1 C.1.2.1 hd ht (fun q => kt q (by rw [if_neg q] at hF; exact hF) H locs ls hP hD hS hL) (fun q => kf q (by rw [if_pos q] at hF; exact hF) H locs ls hP hD hS hL)
theorem vv_icmp_eq {α : Type} {FA FB : Option α} {res : α} (C : vv_X p s m args meth c D tys A nL cc own Ts) {x y : Int32} {off : Int} {tgt : Nat} (hd : decode cc pc = .ok (.if_icmp .eq off, 3)) (ht : (pc : Int) + off = (tgt : Int)) (hF : (if x = y then FA else FB) = some res) (kt : x = y → FA = some res → vv_ p l e R s m args below meth c D A nL Q n k w lv tgt st) (kf : ¬ x = y → FB = some res → vv_ p l e R s m args below meth c D A nL Q n k w lv (pc + 3) st) : vv_ p l e R s m args below meth c D A nL Q n k w lv pc (.int y :: .int x :: st) := fun H locs ls hP hD hS hL => lv_icmp_eq C.1.1 C.1.2.1 hd ht (fun q => kt q (by rw [if_pos q] at hF; exact hF) H locs ls hP hD hS hL) (fun q => kf q (by rw [if_neg q] at hF; exact hF) H locs ls hP hD hS hL)
theorem vv_icmp_ne {α : Type} {FA FB : Option α} {res : α} (C : vv_X p s m args meth c D tys A nL cc own Ts) {x y : Int32} {off : Int} {tgt : Nat} (hd : decode cc pc = .ok (.if_icmp .ne off, 3)) (ht : (pc : Int) + off = (tgt : Int)) (hF : (if x = y then FB else FA) = some res) (kt : ¬ x = y → FA = some res → vv_ p l e R s m args below meth c D A nL Q n k w lv tgt st) (kf : x = y → FB = some res → vv_ p l e R s m args below meth c D A nL Q n k w lv (pc + 3) st) : vv_ p l e R s m args below meth c D A nL Q n k w lv pc (.int y :: .int x :: st) := fun H locs ls hP hD hS hL => lv_icmp_ne C.1.1 C.1.2.1 hd ht (fun q => kt q (by rw [if_neg q] at hF; exact hF) H locs ls hP hD hS hL) (fun q => kf q (by rw [if_pos q] at hF; exact hF) H locs ls hP hD hS hL)
theorem vv_if_lt {α : Type} {FA FB : Option α} {res : α} (C : vv_X p s m args meth c D tys A nL cc own Ts) {x : Int32} {off : Int} {tgt : Nat} (hd : decode cc pc = .ok (.ifCond .lt off, 3)) (ht : (pc : Int) + off = (tgt : Int)) (hF : (if x < 0 then FA else FB) = some res) (kt : x < 0 → FA = some res → vv_ p l e R s m args below meth c D A nL Q n k w lv tgt st) (kf : ¬ x < 0 → FB = some res → vv_ p l e R s m args below meth c D A nL Q n k w lv (pc + 3) st) : vv_ p l e R s m args below meth c D A nL Q n k w lv pc (.int x :: st) := fun H locs ls hP hD hS hL => lv_if_lt C.1.1 C.1.2.1 hd ht (fun q => kt q (by rw [if_pos q] at hF; exact hF) H locs ls hP hD hS hL) (fun q => kf q (by rw [if_neg q] at hF; exact hF) H locs ls hP hD hS hL)
theorem vv_if_ge {α : Type} {FA FB : Option α} {res : α} (C : vv_X p s m args meth c D tys A nL cc own Ts) {x : Int32} {off : Int} {tgt : Nat} (hd : decode cc pc = .ok (.ifCond .ge off, 3)) (ht : (pc : Int) + off = (tgt : Int)) (hF : (if 0 ≤ x then FA else FB) = some res) (kt : 0 ≤ x → FA = some res → vv_ p l e R s m args below meth c D A nL Q n k w lv tgt st) (kf : ¬ 0 ≤ x → FB = some res → vv_ p l e R s m args below meth c D A nL Q n k w lv (pc + 3) st) : vv_ p l e R s m args below meth c D A nL Q n k w lv pc (.int x :: st) := fun H locs ls hP hD hS hL => lv_if_ge C.1.1 C.1.2.1 hd ht (fun q => kt q (by rw [if_pos q] at hF; exact hF) H locs ls hP hD hS hL) (fun q => kf q (by rw [if_neg q] at hF; exact hF) H locs ls hP hD hS hL)
theorem vv_if_gt {α : Type} {FA FB : Option α} {res : α} (C : vv_X p s m args meth c D tys A nL cc own Ts) {x : Int32} {off : Int} {tgt : Nat} (hd : decode cc pc = .ok (.ifCond .gt off, 3)) (ht : (pc : Int) + off = (tgt : Int)) (hF : (if 0 < x then FA else FB) = some res) (kt : 0 < x → FA = some res → vv_ p l e R s m args below meth c D A nL Q n k w lv tgt st) (kf : ¬ 0 < x → FB = some res → vv_ p l e R s m args below meth c D A nL Q n k w lv (pc + 3) st) : vv_ p l e R s m args below meth c D A nL Q n k w lv pc (.int x :: st) := fun H locs ls hP hD hS hL => lv_if_gt C.1.1 C.1.2.1 hd ht (fun q => kt q (by rw [if_pos q] at hF; exact hF) H locs ls hP hD hS hL) (fun q => kf q (by rw [if_neg q] at hF; exact hF) H locs ls hP hD hS hL)
theorem vv_if_le {α : Type} {FA FB : Option α} {res : α} (C : vv_X p s m args meth c D tys A nL cc own Ts) {x : Int32} {off : Int} {tgt : Nat} (hd : decode cc pc = .ok (.ifCond .le off, 3)) (ht : (pc : Int) + off = (tgt : Int)) (hF : (if x ≤ 0 then FA else FB) = some res) (kt : x ≤ 0 → FA = some res → vv_ p l e R s m args below meth c D A nL Q n k w lv tgt st) (kf : ¬ x ≤ 0 → FB = some res → vv_ p l e R s m args below meth c D A nL Q n k w lv (pc + 3) st) : vv_ p l e R s m args below meth c D A nL Q n k w lv pc (.int x :: st) := fun H locs ls hP hD hS hL => lv_if_le C.1.1 C.1.2.1 hd ht (fun q => kt q (by rw [if_pos q] at hF; exact hF) H locs ls hP hD hS hL) (fun q => kf q (by rw [if_neg q] at hF; exact hF) H locs ls hP hD hS hL)
theorem vv_icmp_lt {α : Type} {FA FB : Option α} {res : α} (C : vv_X p s m args meth c D tys A nL cc own Ts) {x y : Int32} {off : Int} {tgt : Nat} (hd : decode cc pc = .ok (.if_icmp .lt off, 3)) (ht : (pc : Int) + off = (tgt : Int)) (hF : (if x < y then FA else FB) = some res) (kt : x < y → FA = some res → vv_ p l e R s m args below meth c D A nL Q n k w lv tgt st) (kf : ¬ x < y → FB = some res → vv_ p l e R s m args below meth c D A nL Q n k w lv (pc + 3) st) : vv_ p l e R s m args below meth c D A nL Q n k w lv pc (.int y :: .int x :: st) := fun H locs ls hP hD hS hL => lv_icmp_lt C.1.1 C.1.2.1 hd ht (fun q => kt q (by rw [if_pos q] at hF; exact hF) H locs ls hP hD hS hL) (fun q => kf q (by rw [if_neg q] at hF; exact hF) H locs ls hP hD hS hL)
theorem vv_icmp_ge {α : Type} {FA FB : Option α} {res : α} (C : vv_X p s m args meth c D tys A nL cc own Ts) {x y : Int32} {off : Int} {tgt : Nat} (hd : decode cc pc = .ok (.if_icmp .ge off, 3)) (ht : (pc : Int) + off = (tgt : Int)) (hF : (if y ≤ x then FA else FB) = some res) (kt : y ≤ x → FA = some res → vv_ p l e R s m args below meth c D A nL Q n k w lv tgt st) (kf : ¬ y ≤ x → FB = some res → vv_ p l e R s m args below meth c D A nL Q n k w lv (pc + 3) st) : vv_ p l e R s m args below meth c D A nL Q n k w lv pc (.int y :: .int x :: st) := fun H locs ls hP hD hS hL => lv_icmp_ge C.1.1 C.1.2.1 hd ht (fun q => kt q (by rw [if_pos q] at hF; exact hF) H locs ls hP hD hS hL) (fun q => kf q (by rw [if_neg q] at hF; exact hF) H locs ls hP hD hS hL)
theorem vv_icmp_gt {α : Type} {FA FB : Option α} {res : α} (C : vv_X p s m args meth c D tys A nL cc own Ts) {x y : Int32} {off : Int} {tgt : Nat} (hd : decode cc pc = .ok (.if_icmp .gt off, 3)) (ht : (pc : Int) + off = (tgt : Int)) (hF : (if y < x then FA else FB) = some res) (kt : y < x → FA = some res → vv_ p l e R s m args below meth c D A nL Q n k w lv tgt st) (kf : ¬ y < x → FB = some res → vv_ p l e R s m args below meth c D A nL Q n k w lv (pc + 3) st) : vv_ p l e R s m args below meth c D A nL Q n k w lv pc (.int y :: .int x :: st) := fun H locs ls hP hD hS hL => lv_icmp_gt C.1.1 C.1.2.1 hd ht (fun q => kt q (by rw [if_pos q] at hF; exact hF) H locs ls hP hD hS hL) (fun q => kf q (by rw [if_neg q] at hF; exact hF) H locs ls hP hD hS hL)
theorem vv_icmp_le {α : Type} {FA FB : Option α} {res : α} (C : vv_X p s m args meth c D tys A nL cc own Ts) {x y : Int32} {off : Int} {tgt : Nat} (hd : decode cc pc = .ok (.if_icmp .le off, 3)) (ht : (pc : Int) + off = (tgt : Int)) (hF : (if x ≤ y then FA else FB) = some res) (kt : x ≤ y → FA = some res → vv_ p l e R s m args below meth c D A nL Q n k w lv tgt st) (kf : ¬ x ≤ y → FB = some res → vv_ p l e R s m args below meth c D A nL Q n k w lv (pc + 3) st) : vv_ p l e R s m args below meth c D A nL Q n k w lv pc (.int y :: .int x :: st) := fun H locs ls hP hD hS hL => lv_icmp_le C.1.1 C.1.2.1 hd ht (fun q => kt q (by rw [if_pos q] at hF; exact hF) H locs ls hP hD hS hL) (fun q => kf q (by rw [if_neg q] at hF; exact hF) H locs ls hP hD hS hL)
/-- an index that is looked at: the rest, or nothing -/
def gd_ {α : Type} (i : Int32) (len : Nat) (K : Nat → Option α) : Option α := if i < 0 ∨ len ≤ i.toNatClampNeg then none else K i.toNatClampNeg
theorem gd_some {α : Type} {i : Int32} {len : Nat} {K : Nat → Option α} {res : α} (h : gd_ i len K = some res) : vp_in i len ∧ i.toNatClampNeg < len ∧ K i.toNatClampNeg = some res := by
  unfold gd_ at h
  by_cases q : i < 0 ∨ len ≤ i.toNatClampNeg
  · rw [if_pos q] at h
    cases h
  · rw [if_neg q] at h
    exact ⟨q, Nat.not_le.mp (fun z => q (Or.inr z)), h⟩
/-- a call's answer: the rest, or nothing -/
def bn_ {α β : Type} (o : Option α) (K : α → Option β) : Option β := match o with
  | none => none
  | some x => K x
theorem bn_some {α β : Type} {o : Option α} {K : α → Option β} {res : β} (h : bn_ o K = some res) : ∃ x, o = some x ∧ K x = some res := by
  cases o with
  | none => cases h
  | some x => exact ⟨x, rfl, h⟩
/-- a boolean: 0 or 1 -/
def gz_ {α : Type} (x : Int32) (K : Option α) : Option α := if x = 0 ∨ x = 1 then K else none
theorem gz_some {α : Type} {x : Int32} {K : Option α} {res : α} (h : gz_ x K = some res) : (x = 0 ∨ x = 1) ∧ K = some res := by
  unfold gz_ at h
  by_cases q : x = 0 ∨ x = 1
  · rw [if_pos q] at h
    exact ⟨q, h⟩
  · rw [if_neg q] at h
    cases h
theorem gz_nar {x : Int32} (h : x = 0 ∨ x = 1) : narrow .boolean (.int x) = .int x := by
  rcases h with rfl | rfl <;> decide +kernel
theorem gz_fit {x : Int32} (h : x = 0 ∨ x = 1) : fits .boolean (.int x) = true := by
  rcases h with rfl | rfl <;> decide +kernel
theorem vv_iald {α : Type} {K : Nat → Option α} {res : α} (C : vv_X p s m args meth c D tys A nL cc own Ts) (q t : Nat) {a : Nat} {cA : ClassId} {len : Nat} {f : Nat → Int32} (ha : w[q]? = some (a, .inl (cA, len, .inl f))) (ht : tys[t]? = some (cA, .int)) {i : Int32} (hF : gd_ i len K = some res) (hd : decode cc pc = .ok (.iaload, 1)) (h : ∀ j : Nat, j < len → K j = some res → vv_ p l e R s m args below meth c D A nL Q n k w lv (pc + 1) (.int (f j) :: st)) : vv_ p l e R s m args below meth c D A nL Q n k w lv pc (.int i :: .ref a :: st) := fun H locs ls hP hD hS hL => va_iald C.1.1 C.1.2.1 C.2.1 hP q t ha ht (gd_some hF).1 hd (h _ (gd_some hF).2.1 (gd_some hF).2.2 H locs ls hP hD hS hL)
theorem vv_bald {α : Type} {K : Nat → Option α} {res : α} (C : vv_X p s m args meth c D tys A nL cc own Ts) (q t : Nat) {a : Nat} {cA : ClassId} {len : Nat} {f : Nat → Int32} (ha : w[q]? = some (a, .inl (cA, len, .inl f))) (ht : tys[t]? = some (cA, .byte)) {i : Int32} (hF : gd_ i len K = some res) (hd : decode cc pc = .ok (.baload, 1)) (h : ∀ j : Nat, j < len → K j = some res → vv_ p l e R s m args below meth c D A nL Q n k w lv (pc + 1) (.int (f j) :: st)) : vv_ p l e R s m args below meth c D A nL Q n k w lv pc (.int i :: .ref a :: st) := fun H locs ls hP hD hS hL => va_bald C.1.1 C.1.2.1 C.2.1 hP q t ha ht (gd_some hF).1 hd (h _ (gd_some hF).2.1 (gd_some hF).2.2 H locs ls hP hD hS hL)
theorem vv_zald {α : Type} {K : Nat → Option α} {res : α} (C : vv_X p s m args meth c D tys A nL cc own Ts) (q t : Nat) {a : Nat} {cA : ClassId} {len : Nat} {f : Nat → Int32} (ha : w[q]? = some (a, .inl (cA, len, .inl f))) (ht : tys[t]? = some (cA, .boolean)) {i : Int32} (hF : gd_ i len K = some res) (hd : decode cc pc = .ok (.baload, 1)) (h : ∀ j : Nat, j < len → K j = some res → vv_ p l e R s m args below meth c D A nL Q n k w lv (pc + 1) (.int (f j) :: st)) : vv_ p l e R s m args below meth c D A nL Q n k w lv pc (.int i :: .ref a :: st) := fun H locs ls hP hD hS hL => va_zald C.1.1 C.1.2.1 C.2.1 hP q t ha ht (gd_some hF).1 hd (h _ (gd_some hF).2.1 (gd_some hF).2.2 H locs ls hP hD hS hL)
theorem vv_iast {α : Type} {K : Nat → Option α} {res : α} (C : vv_X p s m args meth c D tys A nL cc own Ts) (q t : Nat) {a : Nat} {cA : ClassId} {len : Nat} {f : Nat → Int32} (ha : w[q]? = some (a, .inl (cA, len, .inl f))) (ht : tys[t]? = some (cA, .int)) {i x : Int32} (hF : gd_ i len K = some res) (hd : decode cc pc = .ok (.iastore, 1)) {w' : Nat → va_W} (hw : ∀ j : Nat, w.set q (a, .inl (cA, len, .inl (upd f j x))) = w' j) (h : ∀ j : Nat, j < len → K j = some res → vv_ p l e R s m args below meth c D A nL Q n k (w' j) lv (pc + 1) st) : vv_ p l e R s m args below meth c D A nL Q n k w lv pc (.int x :: .int i :: .ref a :: st) := fun H locs ls hP hD hS hL => va_iast C.1.1 C.1.2.1 C.2.1 hP hD hS q t ha ht (gd_some hF).1 hd (fun H1 locs1 hP1 hD1 hS1 => h _ (gd_some hF).2.1 (gd_some hF).2.2 H1 locs1 ls (by rw [hw] at hP1; exact hP1) (by rw [hw] at hD1; exact hD1) hS1 hL)
theorem vv_bast {α : Type} {K : Nat → Option α} {res : α} (C : vv_X p s m args meth c D tys A nL cc own Ts) (q t : Nat) {a : Nat} {cA : ClassId} {len : Nat} {f : Nat → Int32} (ha : w[q]? = some (a, .inl (cA, len, .inl f))) (ht : tys[t]? = some (cA, .byte)) {i x : Int32} (hF : gd_ i len K = some res) (hd : decode cc pc = .ok (.bastore, 1)) {w' : Nat → va_W} (hw : ∀ j : Nat, w.set q (a, .inl (cA, len, .inl (upd f j (vp_nar .byte x)))) = w' j) (h : ∀ j : Nat, j < len → K j = some res → vv_ p l e R s m args below meth c D A nL Q n k (w' j) lv (pc + 1) st) : vv_ p l e R s m args below meth c D A nL Q n k w lv pc (.int x :: .int i :: .ref a :: st) := fun H locs ls hP hD hS hL => va_bast C.1.1 C.1.2.1 C.2.1 hP hD hS q t ha ht (gd_some hF).1 hd (fun H1 locs1 hP1 hD1 hS1 => h _ (gd_some hF).2.1 (gd_some hF).2.2 H1 locs1 ls (by rw [hw] at hP1; exact hP1) (by rw [hw] at hD1; exact hD1) hS1 hL)
theorem vv_zast {α : Type} {K : Nat → Option α} {res : α} (C : vv_X p s m args meth c D tys A nL cc own Ts) (q t : Nat) {a : Nat} {cA : ClassId} {len : Nat} {f : Nat → Int32} (ha : w[q]? = some (a, .inl (cA, len, .inl f))) (ht : tys[t]? = some (cA, .boolean)) {i x : Int32} (hF : gd_ i len K = some res) (hd : decode cc pc = .ok (.bastore, 1)) {w' : Nat → va_W} (hw : ∀ j : Nat, w.set q (a, .inl (cA, len, .inl (upd f j (vp_nar .boolean x)))) = w' j) (h : ∀ j : Nat, j < len → K j = some res → vv_ p l e R s m args below meth c D A nL Q n k (w' j) lv (pc + 1) st) : vv_ p l e R s m args below meth c D A nL Q n k w lv pc (.int x :: .int i :: .ref a :: st) := fun H locs ls hP hD hS hL => va_zast C.1.1 C.1.2.1 C.2.1 hP hD hS q t ha ht (gd_some hF).1 hd (fun H1 locs1 hP1 hD1 hS1 => h _ (gd_some hF).2.1 (gd_some hF).2.2 H1 locs1 ls (by rw [hw] at hP1; exact hP1) (by rw [hw] at hD1; exact hD1) hS1 hL)
theorem vv_get (C : vv_X p s m args meth c D tys A nL cc own Ts) {Cn : String} {T : u_T} {N ci idx a : Nat} (hin : ∀ w ∈ u_ws Cn T N, w ∈ Ts) (q : Nat) {fs : List Value} (he : w[q]? = some (a, .inr (ci, fs))) (hc : vwCl[ci]? = some (Cn, T, N)) (kf : Nat) (hk : kf < N) (hlink : Cond.fieldLink own idx (T kf).1 (T kf).2.1 (T kf).2.2.1 ∈ Ts) {v : Value} (hv : fs[kf]? = some v) (hd : decode cc pc = .ok (.getfield idx, 3)) (h : vv_ p l e R s m args below meth c D A nL Q n k w lv (pc + 3) (v :: st)) : vv_ p l e R s m args below meth c D A nL Q n k w lv pc (.ref a :: st) := fun H locs ls hP hD hS hL => va_get (D := D) (ci := ci) (v := v) (C := Cn) (T := T) (N := N) C.1.1 C.1.2.1 C.1.2.2.2.2 hin C.1.2.2.2.1 C.2.1 hP q he hc kf hk (C.1.2.2.2.2 _ hlink) (fun _ h9 => h9) hv hd (h H locs ls hP hD hS hL)
theorem vv_put (C : vv_X p s m args meth c D tys A nL cc own Ts) {Cn : String} {T : u_T} {N ci idx a : Nat} (hin : ∀ w ∈ u_ws Cn T N, w ∈ Ts) (ty0 : Nat → FieldType) (hty : ∀ k, k < N → parseFieldDescriptor (T k).2.2.1 = some (ty0 k)) (hnm : ∀ a, a < N → ∀ b, b < N → a ≠ b → (T a).2.1 ≠ (T b).2.1) (q : Nat) {fs : List Value} (he : w[q]? = some (a, .inr (ci, fs))) (hc : vwCl[ci]? = some (Cn, T, N)) (kf : Nat) (hk : kf < N) (hlink : Cond.fieldLink own idx (T kf).1 (T kf).2.1 (T kf).2.2.1 ∈ Ts) (hfin : (T kf).2.2.2 = false) {v : Value} (hn : narrow (ty0 kf) v = v) (hfit : fits (ty0 kf) v = true) (hl : kf < fs.length) (hd : decode cc pc = .ok (.putfield idx, 3)) {w' : va_W} (hw : w.set q (a, .inr (ci, fs.set kf v)) = w') (h : vv_ p l e R s m args below meth c D A nL Q n k w' lv (pc + 3) st) : vv_ p l e R s m args below meth c D A nL Q n k w lv pc (v :: .ref a :: st) := fun H locs ls hP hD hS hL => va_put (D := D) (ci := ci) (v := v) (ty := ty0 kf) (C := Cn) (T := T) (N := N) C.1.1 C.1.2.1 C.1.2.2.2.2 hin ty0 hty hnm C.1.2.2.2.1 C.2.1 hP hD hS q he hc kf hk (C.1.2.2.2.2 _ hlink) (fun _ h9 => h9) hfin (hty kf hk) hn hfit hl hd (fun H1 locs1 hP1 hD1 hS1 => h H1 locs1 ls (by rw [hw] at hP1; exact hP1) (by rw [hw] at hD1; exact hD1) hS1 hL)
theorem vv_putF (C : vv_X p s m args meth c D tys A nL cc own Ts) {Cn : String} {T : u_T} {N ci idx a : Nat} (hin : ∀ w ∈ u_ws Cn T N, w ∈ Ts) (ty0 : Nat → FieldType) (hty : ∀ k, k < N → parseFieldDescriptor (T k).2.2.1 = some (ty0 k)) (hnm : ∀ a, a < N → ∀ b, b < N → a ≠ b → (T a).2.1 ≠ (T b).2.1) (q : Nat) {fs : List Value} (he : w[q]? = some (a, .inr (ci, fs))) (hc : vwCl[ci]? = some (Cn, T, N)) (kf : Nat) (hk : kf < N) (hlink : Cond.fieldLink own idx (T kf).1 (T kf).2.1 (T kf).2.2.1 ∈ Ts) (hfin : (T kf).2.2.2 = true) (hini : meth.name = "<init>") (hdecl : (T kf).1 = own) {v : Value} (hn : narrow (ty0 kf) v = v) (hfit : fits (ty0 kf) v = true) (hl : kf < fs.length) (hd : decode cc pc = .ok (.putfield idx, 3)) {w' : va_W} (hw : w.set q (a, .inr (ci, fs.set kf v)) = w') (h : vv_ p l e R s m args below meth c D A nL Q n k w' lv (pc + 3) st) : vv_ p l e R s m args below meth c D A nL Q n k w lv pc (v :: .ref a :: st) := fun H locs ls hP hD hS hL => va_putF (D := D) (ci := ci) (v := v) (ty := ty0 kf) (C := Cn) (T := T) (N := N) C.1.1 C.1.2.1 C.1.2.2.2.2 hin ty0 hty hnm C.1.2.2.2.1 C.2.1 hP hD hS q he hc kf hk (C.1.2.2.2.2 _ hlink) (fun _ h9 => h9) hfin hini hdecl (hty kf hk) hn hfit hl hd (fun H1 locs1 hP1 hD1 hS1 => h H1 locs1 ls (by rw [hw] at hP1; exact hP1) (by rw [hw] at hD1; exact hD1) hS1 hL)
theorem vv_alen (C : vv_X p s m args meth c D tys A nL cc own Ts) (q t : Nat) {a : Nat} {cA : ClassId} {x : vp_A} {ty : FieldType} (ha : w[q]? = some (a, .inl (cA, x))) (ht : tys[t]? = some (cA, ty)) {v : Int32} (hv : Int32.ofNat x.1 = v) (hd : decode cc pc = .ok (.arraylength, 1)) (h : vv_ p l e R s m args below meth c D A nL Q n k w lv (pc + 1) (.int v :: st)) : vv_ p l e R s m args below meth c D A nL Q n k w lv pc (.ref a :: st) := fun H locs ls hP hD hS hL => va_alen C.1.1 C.1.2.1 C.2.1 hP q t ha ht hv hd (h H locs ls hP hD hS hL)
theorem vv_ldc (C : vv_X p s m args meth c D tys A nL cc own Ts) {idx : Nat} {v : Int32} (hm : Cond.constant own idx v ∈ Ts) (hd : decode cc pc = .ok (.ldc idx, 2)) (h : vv_ p l e R s m args below meth c D A nL Q n k w lv (pc + 2) (.int v :: st)) : vv_ p l e R s m args below meth c D A nL Q n k w lv pc st := fun H locs ls hP hD hS hL => lv_ldc C.1.1 C.1.2.1 C.1.2.2.2.1 (C.1.2.2.2.2 _ hm) hd (h H locs ls hP hD hS hL)
end VVA
end
section
/-! CONTRACTS in one form: from the world w, the answer is r and the world is w' behind it; calls as rows of vv_ -/
/-- what a contract asks of the tables and of the cells that are nobody's (E), beside its world -/
def ct_Pre (D : va_G) (tys : List (ClassId × FieldType)) (E : (Nat → Prop) → State → Prop) (w : va_W) (sz : Nat) (U : State) : Prop := U.heap.size = sz ∧ va_P D vwCl w U.heap ∧ va_K D vwCl tys U ∧ va_D (fun _ => True) w ∧ E (va_A w sz) U
def ct_B (D : va_G) (A : Nat → Prop) (w' : va_W) (t : State) : Prop := va_P D vwCl w' t.heap ∧ va_D A w'
def ct_I (l : Launch) (D : va_G) (tys : List (ClassId × FieldType)) (E : (Nat → Prop) → State → Prop) (y : MethodName) (ws : List Cond) (rm : Room) (As : List Value) (w : va_W) (r : Int32) (w' : va_W) : Prop :=
  ∀ sz : Nat, Met l y ws rm (va_Pc As (ct_Pre D tys E w sz)) (va_Qi (fun (x : Int32) (_ : Unit) => x = r) (fun _ => ct_B D (va_A w sz) w') (va_A w sz)) 0 0 (va_A w sz)
def ct_V (l : Launch) (D : va_G) (tys : List (ClassId × FieldType)) (E : (Nat → Prop) → State → Prop) (y : MethodName) (ws : List Cond) (rm : Room) (As : List Value) (w : va_W) (w' : va_W) : Prop :=
  ∀ sz : Nat, Met l y ws rm (va_Pc As (ct_Pre D tys E w sz)) (va_Qv (fun (_ : Unit) => True) (fun _ => ct_B D (va_A w sz) w') (va_A w sz)) 0 0 (va_A w sz)
def ct_Q (l : Launch) (D : va_G) (tys : List (ClassId × FieldType)) (E : (Nat → Prop) → State → Prop) (y : MethodName) (ws : List Cond) (rm : Room) (As : List Value) (w : va_W) (r : Option Nat) (w' : va_W) : Prop :=
  ∀ sz : Nat, Met l y ws rm (va_Pc As (ct_Pre D tys E w sz)) (va_Qq (fun (x : Option Nat) (_ : Unit) => x = r) (fun _ => ct_B D (va_A w sz) w') (va_A w sz)) 0 0 (va_A w sz)
/-- E is blind to frames, and goes over to a callee -/
def ct_E (E : (Nat → Prop) → State → Prop) : Prop := (∀ (A : Nat → Prop) (a : Array Value) (U : State) (g : JFrame) (mk : MethodId), E A U → E A (U.calling g mk a)) ∧
  ∀ (A B : Nat → Prop) (s U : State), E A s → s.WarmedH U.vm → (∀ q : Nat, B q → A q) → (∀ q : Nat, q < s.heap.size → ¬ A q → U.heap[q]? = s.heap[q]?) → E B U
theorem ct_blind {D : va_G} {tys : List (ClassId × FieldType)} {E : (Nat → Prop) → State → Prop} {w : va_W} {sz : Nat} {As : List Value} (hE : ct_E E) : FrameBlind (va_Pc As (ct_Pre D tys E w sz)) := fun a U g mk q => by
  obtain ⟨q0, q1, qP, qK, qD, qE⟩ := q
  exact ⟨q0, q1, qP, va_K.moved (u := U) (U := U.calling g mk a) (Vm.Alike.refl U.vm) qK, qD, hE.1 _ _ _ _ _ qE⟩
section CTA
variable {p : Program} {l : Launch} {e : Env} {R : Room} {s : State} {m : MethodId} {args : Array Value} {below : List Frame} {meth : Method} {c : Code} {D : va_G} {tys : List (ClassId × FieldType)} {A : Nat → Prop} {nL : Nat} {Q : State → Prop} {n k : Nat} {w : va_W} {lv : List (Nat × Value)} {pc : Nat} {st : List Value}
variable {cc : ByteArray} {own : String} {Ts : List Cond} {E : (Nat → Prop) → State → Prop}
theorem ct_free {H : Heap} {locs : List Loc} (C : vv_X p s m args meth c D tys A nL cc own Ts) (hD : va_D A w) (hS : va_S A s.heap H locs) : ∀ q : Nat, va_A w H.size q → A q := by
  intro q h
  rcases h with ⟨i, x, h⟩ | h
  · exact hD.2 i _ h
  · exact C.2.2 q (Nat.le_trans hS.1 h)
theorem ct_pre {H : Heap} {locs : List Loc} (C : vv_X p s m args meth c D tys A nL cc own Ts) (hE : ct_E E) (h0 : E A s) (hP : va_P D vwCl w H) (hD : va_D A w) (hS : va_S A s.heap H locs) {U : State} (hU : U.heap = H) (hW : s.WarmedH U.vm) : ct_Pre D tys E w H.size U := by
  refine ⟨by rw [hU], by rw [hU]; exact hP, va_K.moved hW.alike C.2.1, hD.weaken (fun _ _ _ _ => trivial), hE.2 A _ s U h0 hW (fun q h => ct_free C hD hS q h) (fun q h1 h2 => by rw [hU]; exact hS.2.1 q h1 h2)⟩
/-- what a call of an instance method asks: words, room, receiver -/
theorem vv_callVi {α β : Type} {F : Option α} {K : α → Option β} {res : β} (ans : α → Int32) (wof : α → va_W) (C : vv_X p s m args meth c D tys A nL cc own Ts) (hE : ct_E E) (h0 : E A s) {idx : Nat} {Cn : String} {T : u_T} {N ci : Nat} {y : MethodName} {bytes : ByteArray} {maxL : Nat} {ret : Option FieldType} {ws ws' : List Cond} {rm : Room} {b : Nat} (As rest : List Value) (na : Nat) (hF : bn_ F K = some res)
    (hM : ∀ x, F = some x → ct_I l D tys E y ws rm (.ref b :: As) w (ans x) (wof x)) (hg : GoodIn Ts (wsV own idx Cn y ws)) (hw : ws = Cond.code y bytes maxL ret :: ws') (hrc : rm.cells = 0) (hrs : rm.slots = 0) (hy : y.cls = Cn ∧ y.cls ≠ "java/lang/invoke/MethodHandle" ∧ y.cls ≠ "java/lang/invoke/VarHandle" ∧ (parseMethodDescriptor y.desc).map (fun d => d.parameters.length) = some na) (hR : rm.frames + 1 ≤ R.frames ∧ 8 + (maxL + 11) + rm.locals ≤ R.locals)
    (q0 : Nat) {fs : List Value} (he : w[q0]? = some (b, .inr (ci, fs))) (hc : vwCl[ci]? = some (Cn, T, N)) (hna : As.length = na) (hst : st = As.reverse ++ .ref b :: rest) (hrm : (rest.map fun v => v.category).sum ≤ 8) (hd : decode cc pc = .ok (.invokevirtual idx, 3)) (hnk : n ≤ R.cells ∧ k ≤ R.slots)
    (h : ∀ x, F = some x → K x = some res → vv_ p l e R s m args below meth c D A nL Q n k (wof x) lv (pc + 3) (.int (ans x) :: rest)) : vv_ p l e R s m args below meth c D A nL Q n k w lv pc st := by
  intro H locs ls hP hD hS hL
  obtain ⟨x, hx, hK⟩ := bn_some hF
  subst hst
  have hFc := ct_free C hD hS
  refine va_calli (va_runV (As := As) (rest := rest) C.1 (hM x hx H.size) (cwV na C.1.2.2.2.2 hg hw hrc hrs hy hR) ⟨ct_blind (As := .ref b :: As) hE, va_recv C.2.1 hP hc he, fun U hU hW => ⟨rfl, ct_pre C hE h0 hP hD hS hU hW⟩⟩ rfl hna hL.1 rfl (lv_room hrm) hd hnk) hS (fun q _ h => hFc q h) hFc (fun r u t H1 locs1 ht hvm hp hB hz hk1 hS1 => ?_)
  subst hp
  exact h x hx hK H1 locs1 ls (by rw [← ht]; exact hB.1) (hB.2.weaken (fun _ q _ h9 => hFc q.1 h9)) hS1 hL
theorem vv_callVv {α β : Type} {F : Option α} {K : α → Option β} {res : β} (wof : α → va_W) (C : vv_X p s m args meth c D tys A nL cc own Ts) (hE : ct_E E) (h0 : E A s) {idx : Nat} {Cn : String} {T : u_T} {N ci : Nat} {y : MethodName} {bytes : ByteArray} {maxL : Nat} {ret : Option FieldType} {ws ws' : List Cond} {rm : Room} {b : Nat} (As rest : List Value) (na : Nat) (hF : bn_ F K = some res)
    (hM : ∀ x, F = some x → ct_V l D tys E y ws rm (.ref b :: As) w (wof x)) (hg : GoodIn Ts (wsV own idx Cn y ws)) (hw : ws = Cond.code y bytes maxL ret :: ws') (hrc : rm.cells = 0) (hrs : rm.slots = 0) (hy : y.cls = Cn ∧ y.cls ≠ "java/lang/invoke/MethodHandle" ∧ y.cls ≠ "java/lang/invoke/VarHandle" ∧ (parseMethodDescriptor y.desc).map (fun d => d.parameters.length) = some na) (hR : rm.frames + 1 ≤ R.frames ∧ 8 + (maxL + 11) + rm.locals ≤ R.locals)
    (q0 : Nat) {fs : List Value} (he : w[q0]? = some (b, .inr (ci, fs))) (hc : vwCl[ci]? = some (Cn, T, N)) (hna : As.length = na) (hst : st = As.reverse ++ .ref b :: rest) (hrm : (rest.map fun v => v.category).sum ≤ 8) (hd : decode cc pc = .ok (.invokevirtual idx, 3)) (hnk : n ≤ R.cells ∧ k ≤ R.slots)
    (h : ∀ x, F = some x → K x = some res → vv_ p l e R s m args below meth c D A nL Q n k (wof x) lv (pc + 3) rest) : vv_ p l e R s m args below meth c D A nL Q n k w lv pc st := by
  intro H locs ls hP hD hS hL
  obtain ⟨x, hx, hK⟩ := bn_some hF
  subst hst
  have hFc := ct_free C hD hS
  refine va_callv (va_runV (As := As) (rest := rest) C.1 (hM x hx H.size) (cwV na C.1.2.2.2.2 hg hw hrc hrs hy hR) ⟨ct_blind (As := .ref b :: As) hE, va_recv C.2.1 hP hc he, fun U hU hW => ⟨rfl, ct_pre C hE h0 hP hD hS hU hW⟩⟩ rfl hna hL.1 rfl (lv_room hrm) hd hnk) hS (fun q _ h => hFc q h) hFc (fun u t H1 locs1 ht hvm hp hB hz hk1 hS1 => ?_)
  exact h x hx hK H1 locs1 ls (by rw [← ht]; exact hB.1) (hB.2.weaken (fun _ q _ h9 => hFc q.1 h9)) hS1 hL
theorem vv_callVq {α β : Type} {F : Option α} {K : α → Option β} {res : β} (ans : α → Option Nat) (wof : α → va_W) (C : vv_X p s m args meth c D tys A nL cc own Ts) (hE : ct_E E) (h0 : E A s) {idx : Nat} {Cn : String} {T : u_T} {N ci : Nat} {y : MethodName} {bytes : ByteArray} {maxL : Nat} {ret : Option FieldType} {ws ws' : List Cond} {rm : Room} {b : Nat} (As rest : List Value) (na : Nat) (hF : bn_ F K = some res)
    (hM : ∀ x, F = some x → ct_Q l D tys E y ws rm (.ref b :: As) w (ans x) (wof x)) (hg : GoodIn Ts (wsV own idx Cn y ws)) (hw : ws = Cond.code y bytes maxL ret :: ws') (hrc : rm.cells = 0) (hrs : rm.slots = 0) (hy : y.cls = Cn ∧ y.cls ≠ "java/lang/invoke/MethodHandle" ∧ y.cls ≠ "java/lang/invoke/VarHandle" ∧ (parseMethodDescriptor y.desc).map (fun d => d.parameters.length) = some na) (hR : rm.frames + 1 ≤ R.frames ∧ 8 + (maxL + 11) + rm.locals ≤ R.locals)
    (q0 : Nat) {fs : List Value} (he : w[q0]? = some (b, .inr (ci, fs))) (hc : vwCl[ci]? = some (Cn, T, N)) (hna : As.length = na) (hst : st = As.reverse ++ .ref b :: rest) (hrm : (rest.map fun v => v.category).sum ≤ 8) (hd : decode cc pc = .ok (.invokevirtual idx, 3)) (hnk : n ≤ R.cells ∧ k ≤ R.slots)
    (h : ∀ x, F = some x → K x = some res → vv_ p l e R s m args below meth c D A nL Q n k (wof x) lv (pc + 3) (va_rf (ans x) :: rest)) : vv_ p l e R s m args below meth c D A nL Q n k w lv pc st := by
  intro H locs ls hP hD hS hL
  obtain ⟨x, hx, hK⟩ := bn_some hF
  subst hst
  have hFc := ct_free C hD hS
  refine va_callq (va_runV (As := As) (rest := rest) C.1 (hM x hx H.size) (cwV na C.1.2.2.2.2 hg hw hrc hrs hy hR) ⟨ct_blind (As := .ref b :: As) hE, va_recv C.2.1 hP hc he, fun U hU hW => ⟨rfl, ct_pre C hE h0 hP hD hS hU hW⟩⟩ rfl hna hL.1 rfl (lv_room hrm) hd hnk) hS (fun q _ h => hFc q h) hFc (fun r u t H1 locs1 ht hvm hp hB hz hk1 hS1 => ?_)
  subst hp
  exact h x hx hK H1 locs1 ls (by rw [← ht]; exact hB.1) (hB.2.weaken (fun _ q _ h9 => hFc q.1 h9)) hS1 hL
theorem vv_callSi {α β : Type} {F : Option α} {K : α → Option β} {res : β} (ans : α → Int32) (wof : α → va_W) (C : vv_X p s m args meth c D tys A nL cc own Ts) (hE : ct_E E) (h0 : E A s) {idx : Nat} {y : MethodName} {bytes : ByteArray} {maxL : Nat} {ret : Option FieldType} {ws ws' : List Cond} {rm : Room} (As rest : List Value) (na : Nat) (hF : bn_ F K = some res)
    (hM : ∀ x, F = some x → ct_I l D tys E y ws rm As w (ans x) (wof x)) (hg : GoodIn Ts (va_wsS own idx y ws)) (hw : ws = Cond.code y bytes maxL ret :: ws') (hrc : rm.cells = 0) (hrs : rm.slots = 0) (hy : y.cls ≠ "java/lang/invoke/MethodHandle" ∧ y.cls ≠ "java/lang/invoke/VarHandle" ∧ (parseMethodDescriptor y.desc).map (fun d => d.parameters.length) = some na) (hR : rm.frames + 1 ≤ R.frames ∧ 8 + (maxL + 11) + rm.locals ≤ R.locals)
    (hna : As.length = na) (hst : st = As.reverse ++ rest) (hrm : (rest.map fun v => v.category).sum ≤ 8) (hd : decode cc pc = .ok (.invokestatic idx, 3)) (hnk : n ≤ R.cells ∧ k ≤ R.slots)
    (h : ∀ x, F = some x → K x = some res → vv_ p l e R s m args below meth c D A nL Q n k (wof x) lv (pc + 3) (.int (ans x) :: rest)) : vv_ p l e R s m args below meth c D A nL Q n k w lv pc st := by
  intro H locs ls hP hD hS hL
  obtain ⟨x, hx, hK⟩ := bn_some hF
  subst hst
  have hFc := ct_free C hD hS
  refine va_calli (va_runS (As := As) (rest := rest) C.1 (hM x hx H.size) (va_cwS na C.1.2.2.2.2 hg hw hrc hrs hy hR) ⟨ct_blind (As := As) hE, fun U hU hW => ⟨rfl, ct_pre C hE h0 hP hD hS hU hW⟩⟩ rfl hna hL.1 rfl (lv_room hrm) hd hnk) hS (fun q _ h => hFc q h) hFc (fun r u t H1 locs1 ht hvm hp hB hz hk1 hS1 => ?_)
  subst hp
  exact h x hx hK H1 locs1 ls (by rw [← ht]; exact hB.1) (hB.2.weaken (fun _ q _ h9 => hFc q.1 h9)) hS1 hL
theorem vv_callSv {α β : Type} {F : Option α} {K : α → Option β} {res : β} (wof : α → va_W) (C : vv_X p s m args meth c D tys A nL cc own Ts) (hE : ct_E E) (h0 : E A s) {idx : Nat} {y : MethodName} {bytes : ByteArray} {maxL : Nat} {ret : Option FieldType} {ws ws' : List Cond} {rm : Room} (As rest : List Value) (na : Nat) (hF : bn_ F K = some res)
    (hM : ∀ x, F = some x → ct_V l D tys E y ws rm As w (wof x)) (hg : GoodIn Ts (va_wsS own idx y ws)) (hw : ws = Cond.code y bytes maxL ret :: ws') (hrc : rm.cells = 0) (hrs : rm.slots = 0) (hy : y.cls ≠ "java/lang/invoke/MethodHandle" ∧ y.cls ≠ "java/lang/invoke/VarHandle" ∧ (parseMethodDescriptor y.desc).map (fun d => d.parameters.length) = some na) (hR : rm.frames + 1 ≤ R.frames ∧ 8 + (maxL + 11) + rm.locals ≤ R.locals)
    (hna : As.length = na) (hst : st = As.reverse ++ rest) (hrm : (rest.map fun v => v.category).sum ≤ 8) (hd : decode cc pc = .ok (.invokestatic idx, 3)) (hnk : n ≤ R.cells ∧ k ≤ R.slots)
    (h : ∀ x, F = some x → K x = some res → vv_ p l e R s m args below meth c D A nL Q n k (wof x) lv (pc + 3) rest) : vv_ p l e R s m args below meth c D A nL Q n k w lv pc st := by
  intro H locs ls hP hD hS hL
  obtain ⟨x, hx, hK⟩ := bn_some hF
  subst hst
  have hFc := ct_free C hD hS
  refine va_callv (va_runS (As := As) (rest := rest) C.1 (hM x hx H.size) (va_cwS na C.1.2.2.2.2 hg hw hrc hrs hy hR) ⟨ct_blind (As := As) hE, fun U hU hW => ⟨rfl, ct_pre C hE h0 hP hD hS hU hW⟩⟩ rfl hna hL.1 rfl (lv_room hrm) hd hnk) hS (fun q _ h => hFc q h) hFc (fun u t H1 locs1 ht hvm hp hB hz hk1 hS1 => ?_)
  exact h x hx hK H1 locs1 ls (by rw [← ht]; exact hB.1) (hB.2.weaken (fun _ q _ h9 => hFc q.1 h9)) hS1 hL
/-- a private static method of the nest's host -/
theorem vv_callNi {α β : Type} {F : Option α} {K : α → Option β} {res : β} (ans : α → Int32) (wof : α → va_W) (C : vv_X p s m args meth c D tys A nL cc own Ts) (hE : ct_E E) (h0 : E A s) {idx : Nat} {host : String} {y : MethodName} {bytes : ByteArray} {maxL : Nat} {ret : Option FieldType} {ws ws' : List Cond} {rm : Room} (As rest : List Value) (na : Nat) (hF : bn_ F K = some res)
    (hM : ∀ x, F = some x → ct_I l D tys E y ws rm As w (ans x) (wof x)) (hg : GoodIn Ts ws) (hl : va_Nw (.methodLinkNest own idx y host) s) (hi : Cond.initialized y.cls ∈ Ts) (hs : Cond.static y ∈ Ts) (hw : ws = Cond.code y bytes maxL ret :: ws') (hrc : rm.cells = 0) (hrs : rm.slots = 0) (hy : y.cls ≠ "java/lang/invoke/MethodHandle" ∧ y.cls ≠ "java/lang/invoke/VarHandle" ∧ (parseMethodDescriptor y.desc).map (fun d => d.parameters.length) = some na) (hR : rm.frames + 1 ≤ R.frames ∧ 8 + (maxL + 11) + rm.locals ≤ R.locals)
    (hna : As.length = na) (hst : st = As.reverse ++ rest) (hrm : (rest.map fun v => v.category).sum ≤ 8) (hd : decode cc pc = .ok (.invokestatic idx, 3)) (hnk : n ≤ R.cells ∧ k ≤ R.slots)
    (h : ∀ x, F = some x → K x = some res → vv_ p l e R s m args below meth c D A nL Q n k (wof x) lv (pc + 3) (.int (ans x) :: rest)) : vv_ p l e R s m args below meth c D A nL Q n k w lv pc st := by
  intro H locs ls hP hD hS hL
  obtain ⟨x, hx, hK⟩ := bn_some hF
  subst hst
  have hFc := ct_free C hD hS
  refine va_calli (va_runSN (As := As) (rest := rest) C.1 (hM x hx H.size) ⟨va_cnB na C.1.2.2.2.2 hg hw hrc hrs hl (C.1.2.2.2.2 _ hi) hy hR, C.1.2.2.2.2 _ hs, trivial⟩ ⟨ct_blind (As := As) hE, fun U hU hW => ⟨rfl, ct_pre C hE h0 hP hD hS hU hW⟩⟩ rfl hna hL.1 rfl (lv_room hrm) hd hnk) hS (fun q _ h => hFc q h) hFc (fun r u t H1 locs1 ht hvm hp hB hz hk1 hS1 => ?_)
  subst hp
  exact h x hx hK H1 locs1 ls (by rw [← ht]; exact hB.1) (hB.2.weaken (fun _ q _ h9 => hFc q.1 h9)) hS1 hL
end CTA
/-- a method's end: with that answer and that world, at any return -/
def rt_I (p : Program) (l : Launch) (e : Env) (R : Room) (s : State) (m : MethodId) (args : Array Value) (below : List Frame) (meth : Method) (c : Code) (D : va_G) (A : Nat → Prop) (nL : Nat) (Q : State → Prop) (cc : ByteArray) (ty : FieldType) (w : va_W) (r : Int32) : Prop :=
  ∀ (lv : List (Nat × Value)) (pc : Nat), decode cc pc = .ok (.ireturn, 1) → narrow ty (.int r) = .int r → vv_ p l e R s m args below meth c D A nL Q 0 0 w lv pc [.int r]
def rt_V (p : Program) (l : Launch) (e : Env) (R : Room) (s : State) (m : MethodId) (args : Array Value) (below : List Frame) (meth : Method) (c : Code) (D : va_G) (A : Nat → Prop) (nL : Nat) (Q : State → Prop) (cc : ByteArray) (w : va_W) : Prop :=
  ∀ (lv : List (Nat × Value)) (pc : Nat), decode cc pc = .ok (.return_, 1) → vv_ p l e R s m args below meth c D A nL Q 0 0 w lv pc []
def rt_Q (p : Program) (l : Launch) (e : Env) (R : Room) (s : State) (m : MethodId) (args : Array Value) (below : List Frame) (meth : Method) (c : Code) (D : va_G) (A : Nat → Prop) (nL : Nat) (Q : State → Prop) (cc : ByteArray) (w : va_W) (r : Option Nat) : Prop :=
  ∀ (lv : List (Nat × Value)) (pc : Nat), decode cc pc = .ok (.areturn, 1) → vv_ p l e R s m args below meth c D A nL Q 0 0 w lv pc [va_rf r]
theorem mt_I {l : Launch} {D : va_G} {tys : List (ClassId × FieldType)} {E : (Nat → Prop) → State → Prop} {y : MethodName} {ws ws' : List Cond} {rm : Room} {cc : ByteArray} {maxL : Nat} {ty : FieldType} {As : List Value} {w w' : va_W} {r : Int32} (hy : plainName y.cls = true) (hw : ws = Cond.code y cc maxL (some ty) :: ws') (hlen : (lg_sl As).length ≤ maxL)
    (body : ∀ (p : Program) (e : Env) (s : State) (m : MethodId) (args : Array Value) (below : List Frame) (meth : Method) (c : Code) (A : Nat → Prop) (Q : State → Prop), vv_X p s m args meth c D tys A maxL cc y.cls ws → E A s → rt_I p l e rm s m args below meth c D A maxL Q cc ty w' r → vv_ p l e rm s m args below meth c D A maxL Q 0 0 w (lv_args 0 As) 0 []) : ct_I l D tys E y ws rm As w r w' := by
  intro sz
  refine Met.ofW (cc := cc) (maxL := maxL) (ret := some ty) hy hw ?_
  intro p e s m args below meth c s₁ B hml hv
  obtain ⟨rfl, hsz, hP, hK, hD0, hE⟩ := hv
  have hts := atoms_spec (ws := ws) B.pre
  have hown : s.vm.findClass y.cls = some m.cls := findClass_of_methodNamed B.named
  subst hsz
  have hD := hD0.self (sz := s.heap.size)
  have hl := lv_entry As (n := maxL) hlen
  rw [lg_entry_eq]
  refine body p e s m As.toArray below meth c (va_A w s.heap.size) _ ⟨⟨B.exec, B.bytes, hml, hown, hts⟩, hK, fun q h => Or.inr h⟩ hE ?_ s.heap [] _ hP hD va_S.rf hl
  intro lv pc hd hn H locs ls hP1 hD1 hS1 hL1
  exact W.zret (v := r) B.exec B.bytes B.returns hn (fun t ht hW => ⟨⟨r, (), rfl, rfl, by rw [ht]; exact hP1, hD1⟩, hS1.F ht⟩) hS1.2.2 hd B.notSynchronized
theorem mt_V {l : Launch} {D : va_G} {tys : List (ClassId × FieldType)} {E : (Nat → Prop) → State → Prop} {y : MethodName} {ws ws' : List Cond} {rm : Room} {cc : ByteArray} {maxL : Nat} {As : List Value} {w w' : va_W} (hy : plainName y.cls = true) (hw : ws = Cond.code y cc maxL none :: ws') (hlen : (lg_sl As).length ≤ maxL)
    (body : ∀ (p : Program) (e : Env) (s : State) (m : MethodId) (args : Array Value) (below : List Frame) (meth : Method) (c : Code) (A : Nat → Prop) (Q : State → Prop), vv_X p s m args meth c D tys A maxL cc y.cls ws → E A s → rt_V p l e rm s m args below meth c D A maxL Q cc w' → vv_ p l e rm s m args below meth c D A maxL Q 0 0 w (lv_args 0 As) 0 []) : ct_V l D tys E y ws rm As w w' := by
  intro sz
  refine Met.ofW (cc := cc) (maxL := maxL) (ret := none) hy hw ?_
  intro p e s m args below meth c s₁ B hml hv
  obtain ⟨rfl, hsz, hP, hK, hD0, hE⟩ := hv
  have hts := atoms_spec (ws := ws) B.pre
  have hown : s.vm.findClass y.cls = some m.cls := findClass_of_methodNamed B.named
  subst hsz
  have hD := hD0.self (sz := s.heap.size)
  have hl := lv_entry As (n := maxL) hlen
  rw [lg_entry_eq]
  refine body p e s m As.toArray below meth c (va_A w s.heap.size) _ ⟨⟨B.exec, B.bytes, hml, hown, hts⟩, hK, fun q h => Or.inr h⟩ hE ?_ s.heap [] _ hP hD va_S.rf hl
  intro lv pc hd H locs ls hP1 hD1 hS1 hL1
  exact W.vret B.exec B.bytes B.returns (fun t ht hW => ⟨⟨(), rfl, trivial, by rw [ht]; exact hP1, hD1⟩, hS1.F ht⟩) hS1.2.2 hd B.notSynchronized
theorem mt_Q {l : Launch} {D : va_G} {tys : List (ClassId × FieldType)} {E : (Nat → Prop) → State → Prop} {y : MethodName} {ws ws' : List Cond} {rm : Room} {cc : ByteArray} {maxL : Nat} {nm : String} {As : List Value} {w w' : va_W} {r : Option Nat} (hy : plainName y.cls = true) (hw : ws = Cond.code y cc maxL (some (.object nm)) :: ws') (hlen : (lg_sl As).length ≤ maxL)
    (body : ∀ (p : Program) (e : Env) (s : State) (m : MethodId) (args : Array Value) (below : List Frame) (meth : Method) (c : Code) (A : Nat → Prop) (Q : State → Prop), vv_X p s m args meth c D tys A maxL cc y.cls ws → E A s → rt_Q p l e rm s m args below meth c D A maxL Q cc w' r → vv_ p l e rm s m args below meth c D A maxL Q 0 0 w (lv_args 0 As) 0 []) : ct_Q l D tys E y ws rm As w r w' := by
  intro sz
  refine Met.ofW (cc := cc) (maxL := maxL) (ret := some (.object nm)) hy hw ?_
  intro p e s m args below meth c s₁ B hml hv
  obtain ⟨rfl, hsz, hP, hK, hD0, hE⟩ := hv
  have hts := atoms_spec (ws := ws) B.pre
  have hown : s.vm.findClass y.cls = some m.cls := findClass_of_methodNamed B.named
  subst hsz
  have hD := hD0.self (sz := s.heap.size)
  have hl := lv_entry As (n := maxL) hlen
  rw [lg_entry_eq]
  refine body p e s m As.toArray below meth c (va_A w s.heap.size) _ ⟨⟨B.exec, B.bytes, hml, hown, hts⟩, hK, fun q h => Or.inr h⟩ hE ?_ s.heap [] _ hP hD va_S.rf hl
  intro lv pc hd H locs ls hP1 hD1 hS1 hL1
  exact W.aret (v := va_rf r) B.exec B.bytes B.returns (Or.inl ⟨_, rfl⟩) (by cases r with | none => exact Or.inl rfl | some a => exact Or.inr ⟨a, rfl⟩) (fun t ht hW => ⟨⟨r, (), rfl, rfl, by rw [ht]; exact hP1, hD1⟩, hS1.F ht⟩) hS1.2.2 hd B.notSynchronized
/-- no such cells and tables are asked -/
def en_T : (Nat → Prop) → State → Prop := fun _ _ => True
theorem en_ok : ct_E en_T := ⟨fun _ _ _ _ _ _ => trivial, fun _ _ _ _ _ _ _ _ => trivial⟩
end
section
/-! THE STATE of either side: numbers by their places, arrays by their places, how many farms, a farm's numbers -/
abbrev St_ : Type := (Nat → Int32) × (Nat → Nat → Int32) × Nat × (Nat → Nat → Int32)
def sS (σ : St_) (k : Nat) : Int32 := σ.1 k
def sM (σ : St_) (k : Nat) : Nat → Int32 := σ.2.1 k
def sN (σ : St_) : Nat := σ.2.2.1
def sF (σ : St_) (i k : Nat) : Int32 := σ.2.2.2 i k
def uS (σ : St_) (k : Nat) (v : Int32) : St_ := (fun j => if j = k then v else σ.1 j, σ.2)
def uA (σ : St_) (k : Nat) (f : Nat → Int32) : St_ := (σ.1, fun j => if j = k then f else σ.2.1 j, σ.2.2)
def uM (σ : St_) (k j : Nat) (v : Int32) : St_ := uA σ k (upd (sM σ k) j v)
def uF (σ : St_) (i k : Nat) (v : Int32) : St_ := (σ.1, σ.2.1, σ.2.2.1, fun a b => if a = i then (if b = k then v else σ.2.2.2 a b) else σ.2.2.2 a b)
def uN (σ : St_) (f : Nat → Int32) : St_ := (σ.1, σ.2.1, σ.2.2.1 + 1, fun a b => if a = σ.2.2.1 then f b else σ.2.2.2 a b)
theorem sS_uS (σ : St_) (a k : Nat) (v : Int32) : sS (uS σ k v) a = if a = k then v else sS σ a := rfl
theorem sS_uA (σ : St_) (a k : Nat) (f : Nat → Int32) : sS (uA σ k f) a = sS σ a := rfl
theorem sS_uM (σ : St_) (a k j : Nat) (v : Int32) : sS (uM σ k j v) a = sS σ a := rfl
theorem sS_uF (σ : St_) (a i k : Nat) (v : Int32) : sS (uF σ i k v) a = sS σ a := rfl
theorem sM_uS (σ : St_) (a k : Nat) (v : Int32) : sM (uS σ k v) a = sM σ a := rfl
theorem sM_uA (σ : St_) (a k : Nat) (f : Nat → Int32) : sM (uA σ k f) a = if a = k then f else sM σ a := rfl
theorem sM_uM (σ : St_) (a k j : Nat) (v : Int32) : sM (uM σ k j v) a = if a = k then upd (sM σ k) j v else sM σ a := rfl
theorem sM_uF (σ : St_) (a i k : Nat) (v : Int32) : sM (uF σ i k v) a = sM σ a := rfl
theorem sN_uS (σ : St_) (k : Nat) (v : Int32) : sN (uS σ k v) = sN σ := rfl
theorem sN_uA (σ : St_) (k : Nat) (f : Nat → Int32) : sN (uA σ k f) = sN σ := rfl
theorem sN_uM (σ : St_) (k j : Nat) (v : Int32) : sN (uM σ k j v) = sN σ := rfl
theorem sN_uF (σ : St_) (i k : Nat) (v : Int32) : sN (uF σ i k v) = sN σ := rfl
theorem sF_uS (σ : St_) (a b k : Nat) (v : Int32) : sF (uS σ k v) a b = sF σ a b := rfl
theorem sF_uA (σ : St_) (a b k : Nat) (f : Nat → Int32) : sF (uA σ k f) a b = sF σ a b := rfl
theorem sF_uM (σ : St_) (a b k j : Nat) (v : Int32) : sF (uM σ k j v) a b = sF σ a b := rfl
theorem sF_uF (σ : St_) (a b i k : Nat) (v : Int32) : sF (uF σ i k v) a b = if a = i then (if b = k then v else sF σ a b) else sF σ a b := rfl
def tysW (cy : Nat → ClassId) : List (ClassId × FieldType) := [(cy 0, .int), (cy 1, .boolean), (cy 2, .byte), (cy 3, .object "PeerCircle$Farm"), (cy 4, .array .int)]
/-- a farm's cell -/
def fr_ (σ : St_) (i : Nat) : List Value := [.int (sF σ i 0), .int (sF σ i 1), .int (sF σ i 2), .int (sF σ i 3), .int (sF σ i 4), .int (sF σ i 5), .int (sF σ i 6), .int (sF σ i 7)]
/-- THE CLASS'S WORLD -/
def wXf (cy : Nat → ClassId) (ad fad : Nat → Nat) (σ : St_) : va_W := [(ad 0, .inl (cy 0, 60, .inl (sM σ 0))), (ad 1, .inl (cy 0, 6, .inl (sM σ 1))), (ad 2, .inl (cy 0, 6, .inl (sM σ 2))), (ad 3, .inl (cy 0, 10, .inl (sM σ 3))), (ad 4, .inl (cy 0, 10, .inl (sM σ 4))), (ad 5, .inl (cy 0, 22, .inl (sM σ 5))), (ad 6, .inl (cy 0, 22, .inl (sM σ 6))), (ad 7, .inl (cy 0, 22, .inl (sM σ 7))), (ad 8, .inl (cy 0, 10, .inl (sM σ 8))), (ad 9, .inl (cy 0, 10, .inl (sM σ 9))), (ad 10, .inl (cy 0, 10, .inl (sM σ 10))), (ad 11, .inl (cy 0, 8, .inl (sM σ 11))), (ad 12, .inl (cy 0, 10, .inl (sM σ 12))), (ad 13, .inl (cy 0, 10, .inl (sM σ 13))), (ad 14, .inl (cy 0, 10, .inl (sM σ 14))), (ad 15, .inl (cy 0, 10, .inl (sM σ 15))), (ad 16, .inl (cy 0, 10, .inl (sM σ 16))), (ad 17, .inl (cy 0, 10, .inl (sM σ 17))), (ad 18, .inl (cy 0, 10, .inl (sM σ 18))), (ad 19, .inl (cy 0, 10, .inl (sM σ 19))), (ad 20, .inl (cy 0, 10, .inl (sM σ 20))), (ad 21, .inl (cy 0, 10, .inl (sM σ 21))), (ad 22, .inl (cy 4, 10, .inr (.inr (.inr (.inr (fun i => if i < 10 then some (ad (12 + i)) else none)))))), (ad 23, .inl (cy 3, 10, .inr (.inr (.inr (.inr (fun i => if i < sN σ then some (fad i) else none)))))), (ad 24, .inr (3, [.ref (ad 0), .int (sS σ 0)])), (ad 25, .inr (2, [.ref (ad 1), .ref (ad 2), .int (sS σ 1)])), (ad 26, .inr (4, [.ref (ad 3), .ref (ad 4), .ref (ad 22), .int (sS σ 2)])), (ad 27, .inr (1, [.ref (ad 5), .ref (ad 6), .ref (ad 7), .ref (ad 8), .ref (ad 9), .int (sS σ 3), .int (sS σ 4)])), (ad 28, .inr (5, [.ref (ad 24), .ref (ad 25), .ref (ad 26), .ref (ad 27), .ref (ad 23), .ref (ad 10), .ref (ad 11), .int (sS σ 5), .int (sS σ 6)]))]
def wXp (fad : Nat → Nat) (σ : St_) : va_W := (List.range (sN σ)).map (fun i => (fad i, .inr (0, fr_ σ i)))
def wX (cy : Nat → ClassId) (ad fad : Nat → Nat) (σ : St_) : va_W := wXf cy ad fad σ ++ wXp fad σ
theorem wX_g0 (cy : Nat → ClassId) (ad fad : Nat → Nat) (σ : St_) : (wX cy ad fad σ)[0]? = some (ad 0, .inl (cy 0, 60, .inl (sM σ 0))) := rfl
theorem wX_g1 (cy : Nat → ClassId) (ad fad : Nat → Nat) (σ : St_) : (wX cy ad fad σ)[1]? = some (ad 1, .inl (cy 0, 6, .inl (sM σ 1))) := rfl
theorem wX_g2 (cy : Nat → ClassId) (ad fad : Nat → Nat) (σ : St_) : (wX cy ad fad σ)[2]? = some (ad 2, .inl (cy 0, 6, .inl (sM σ 2))) := rfl
theorem wX_g3 (cy : Nat → ClassId) (ad fad : Nat → Nat) (σ : St_) : (wX cy ad fad σ)[3]? = some (ad 3, .inl (cy 0, 10, .inl (sM σ 3))) := rfl
theorem wX_g4 (cy : Nat → ClassId) (ad fad : Nat → Nat) (σ : St_) : (wX cy ad fad σ)[4]? = some (ad 4, .inl (cy 0, 10, .inl (sM σ 4))) := rfl
theorem wX_g5 (cy : Nat → ClassId) (ad fad : Nat → Nat) (σ : St_) : (wX cy ad fad σ)[5]? = some (ad 5, .inl (cy 0, 22, .inl (sM σ 5))) := rfl
theorem wX_g6 (cy : Nat → ClassId) (ad fad : Nat → Nat) (σ : St_) : (wX cy ad fad σ)[6]? = some (ad 6, .inl (cy 0, 22, .inl (sM σ 6))) := rfl
theorem wX_g7 (cy : Nat → ClassId) (ad fad : Nat → Nat) (σ : St_) : (wX cy ad fad σ)[7]? = some (ad 7, .inl (cy 0, 22, .inl (sM σ 7))) := rfl
theorem wX_g8 (cy : Nat → ClassId) (ad fad : Nat → Nat) (σ : St_) : (wX cy ad fad σ)[8]? = some (ad 8, .inl (cy 0, 10, .inl (sM σ 8))) := rfl
theorem wX_g9 (cy : Nat → ClassId) (ad fad : Nat → Nat) (σ : St_) : (wX cy ad fad σ)[9]? = some (ad 9, .inl (cy 0, 10, .inl (sM σ 9))) := rfl
theorem wX_g10 (cy : Nat → ClassId) (ad fad : Nat → Nat) (σ : St_) : (wX cy ad fad σ)[10]? = some (ad 10, .inl (cy 0, 10, .inl (sM σ 10))) := rfl
theorem wX_g11 (cy : Nat → ClassId) (ad fad : Nat → Nat) (σ : St_) : (wX cy ad fad σ)[11]? = some (ad 11, .inl (cy 0, 8, .inl (sM σ 11))) := rfl
theorem wX_g12 (cy : Nat → ClassId) (ad fad : Nat → Nat) (σ : St_) : (wX cy ad fad σ)[12]? = some (ad 12, .inl (cy 0, 10, .inl (sM σ 12))) := rfl
theorem wX_g13 (cy : Nat → ClassId) (ad fad : Nat → Nat) (σ : St_) : (wX cy ad fad σ)[13]? = some (ad 13, .inl (cy 0, 10, .inl (sM σ 13))) := rfl
theorem wX_g14 (cy : Nat → ClassId) (ad fad : Nat → Nat) (σ : St_) : (wX cy ad fad σ)[14]? = some (ad 14, .inl (cy 0, 10, .inl (sM σ 14))) := rfl
theorem wX_g15 (cy : Nat → ClassId) (ad fad : Nat → Nat) (σ : St_) : (wX cy ad fad σ)[15]? = some (ad 15, .inl (cy 0, 10, .inl (sM σ 15))) := rfl
theorem wX_g16 (cy : Nat → ClassId) (ad fad : Nat → Nat) (σ : St_) : (wX cy ad fad σ)[16]? = some (ad 16, .inl (cy 0, 10, .inl (sM σ 16))) := rfl
theorem wX_g17 (cy : Nat → ClassId) (ad fad : Nat → Nat) (σ : St_) : (wX cy ad fad σ)[17]? = some (ad 17, .inl (cy 0, 10, .inl (sM σ 17))) := rfl
theorem wX_g18 (cy : Nat → ClassId) (ad fad : Nat → Nat) (σ : St_) : (wX cy ad fad σ)[18]? = some (ad 18, .inl (cy 0, 10, .inl (sM σ 18))) := rfl
theorem wX_g19 (cy : Nat → ClassId) (ad fad : Nat → Nat) (σ : St_) : (wX cy ad fad σ)[19]? = some (ad 19, .inl (cy 0, 10, .inl (sM σ 19))) := rfl
theorem wX_g20 (cy : Nat → ClassId) (ad fad : Nat → Nat) (σ : St_) : (wX cy ad fad σ)[20]? = some (ad 20, .inl (cy 0, 10, .inl (sM σ 20))) := rfl
theorem wX_g21 (cy : Nat → ClassId) (ad fad : Nat → Nat) (σ : St_) : (wX cy ad fad σ)[21]? = some (ad 21, .inl (cy 0, 10, .inl (sM σ 21))) := rfl
theorem wX_g22 (cy : Nat → ClassId) (ad fad : Nat → Nat) (σ : St_) : (wX cy ad fad σ)[22]? = some (ad 22, .inl (cy 4, 10, .inr (.inr (.inr (.inr (fun i => if i < 10 then some (ad (12 + i)) else none)))))) := rfl
theorem wX_g23 (cy : Nat → ClassId) (ad fad : Nat → Nat) (σ : St_) : (wX cy ad fad σ)[23]? = some (ad 23, .inl (cy 3, 10, .inr (.inr (.inr (.inr (fun i => if i < sN σ then some (fad i) else none)))))) := rfl
theorem wX_g24 (cy : Nat → ClassId) (ad fad : Nat → Nat) (σ : St_) : (wX cy ad fad σ)[24]? = some (ad 24, .inr (3, [.ref (ad 0), .int (sS σ 0)])) := rfl
theorem wX_g25 (cy : Nat → ClassId) (ad fad : Nat → Nat) (σ : St_) : (wX cy ad fad σ)[25]? = some (ad 25, .inr (2, [.ref (ad 1), .ref (ad 2), .int (sS σ 1)])) := rfl
theorem wX_g26 (cy : Nat → ClassId) (ad fad : Nat → Nat) (σ : St_) : (wX cy ad fad σ)[26]? = some (ad 26, .inr (4, [.ref (ad 3), .ref (ad 4), .ref (ad 22), .int (sS σ 2)])) := rfl
theorem wX_g27 (cy : Nat → ClassId) (ad fad : Nat → Nat) (σ : St_) : (wX cy ad fad σ)[27]? = some (ad 27, .inr (1, [.ref (ad 5), .ref (ad 6), .ref (ad 7), .ref (ad 8), .ref (ad 9), .int (sS σ 3), .int (sS σ 4)])) := rfl
theorem wX_g28 (cy : Nat → ClassId) (ad fad : Nat → Nat) (σ : St_) : (wX cy ad fad σ)[28]? = some (ad 28, .inr (5, [.ref (ad 24), .ref (ad 25), .ref (ad 26), .ref (ad 27), .ref (ad 23), .ref (ad 10), .ref (ad 11), .int (sS σ 5), .int (sS σ 6)])) := rfl
theorem wX_a0 (cy : Nat → ClassId) (ad fad : Nat → Nat) (σ : St_) (f : Nat → Int32) : (wX cy ad fad σ).set 0 (ad 0, .inl (cy 0, 60, .inl f)) = wX cy ad fad (uA σ 0 f) := rfl
theorem wX_a1 (cy : Nat → ClassId) (ad fad : Nat → Nat) (σ : St_) (f : Nat → Int32) : (wX cy ad fad σ).set 1 (ad 1, .inl (cy 0, 6, .inl f)) = wX cy ad fad (uA σ 1 f) := rfl
theorem wX_a2 (cy : Nat → ClassId) (ad fad : Nat → Nat) (σ : St_) (f : Nat → Int32) : (wX cy ad fad σ).set 2 (ad 2, .inl (cy 0, 6, .inl f)) = wX cy ad fad (uA σ 2 f) := rfl
theorem wX_a3 (cy : Nat → ClassId) (ad fad : Nat → Nat) (σ : St_) (f : Nat → Int32) : (wX cy ad fad σ).set 3 (ad 3, .inl (cy 0, 10, .inl f)) = wX cy ad fad (uA σ 3 f) := rfl
theorem wX_a4 (cy : Nat → ClassId) (ad fad : Nat → Nat) (σ : St_) (f : Nat → Int32) : (wX cy ad fad σ).set 4 (ad 4, .inl (cy 0, 10, .inl f)) = wX cy ad fad (uA σ 4 f) := rfl
theorem wX_a5 (cy : Nat → ClassId) (ad fad : Nat → Nat) (σ : St_) (f : Nat → Int32) : (wX cy ad fad σ).set 5 (ad 5, .inl (cy 0, 22, .inl f)) = wX cy ad fad (uA σ 5 f) := rfl
theorem wX_a6 (cy : Nat → ClassId) (ad fad : Nat → Nat) (σ : St_) (f : Nat → Int32) : (wX cy ad fad σ).set 6 (ad 6, .inl (cy 0, 22, .inl f)) = wX cy ad fad (uA σ 6 f) := rfl
theorem wX_a7 (cy : Nat → ClassId) (ad fad : Nat → Nat) (σ : St_) (f : Nat → Int32) : (wX cy ad fad σ).set 7 (ad 7, .inl (cy 0, 22, .inl f)) = wX cy ad fad (uA σ 7 f) := rfl
theorem wX_a8 (cy : Nat → ClassId) (ad fad : Nat → Nat) (σ : St_) (f : Nat → Int32) : (wX cy ad fad σ).set 8 (ad 8, .inl (cy 0, 10, .inl f)) = wX cy ad fad (uA σ 8 f) := rfl
theorem wX_a9 (cy : Nat → ClassId) (ad fad : Nat → Nat) (σ : St_) (f : Nat → Int32) : (wX cy ad fad σ).set 9 (ad 9, .inl (cy 0, 10, .inl f)) = wX cy ad fad (uA σ 9 f) := rfl
theorem wX_a10 (cy : Nat → ClassId) (ad fad : Nat → Nat) (σ : St_) (f : Nat → Int32) : (wX cy ad fad σ).set 10 (ad 10, .inl (cy 0, 10, .inl f)) = wX cy ad fad (uA σ 10 f) := rfl
theorem wX_a11 (cy : Nat → ClassId) (ad fad : Nat → Nat) (σ : St_) (f : Nat → Int32) : (wX cy ad fad σ).set 11 (ad 11, .inl (cy 0, 8, .inl f)) = wX cy ad fad (uA σ 11 f) := rfl
theorem wX_a12 (cy : Nat → ClassId) (ad fad : Nat → Nat) (σ : St_) (f : Nat → Int32) : (wX cy ad fad σ).set 12 (ad 12, .inl (cy 0, 10, .inl f)) = wX cy ad fad (uA σ 12 f) := rfl
theorem wX_a13 (cy : Nat → ClassId) (ad fad : Nat → Nat) (σ : St_) (f : Nat → Int32) : (wX cy ad fad σ).set 13 (ad 13, .inl (cy 0, 10, .inl f)) = wX cy ad fad (uA σ 13 f) := rfl
theorem wX_a14 (cy : Nat → ClassId) (ad fad : Nat → Nat) (σ : St_) (f : Nat → Int32) : (wX cy ad fad σ).set 14 (ad 14, .inl (cy 0, 10, .inl f)) = wX cy ad fad (uA σ 14 f) := rfl
theorem wX_a15 (cy : Nat → ClassId) (ad fad : Nat → Nat) (σ : St_) (f : Nat → Int32) : (wX cy ad fad σ).set 15 (ad 15, .inl (cy 0, 10, .inl f)) = wX cy ad fad (uA σ 15 f) := rfl
theorem wX_a16 (cy : Nat → ClassId) (ad fad : Nat → Nat) (σ : St_) (f : Nat → Int32) : (wX cy ad fad σ).set 16 (ad 16, .inl (cy 0, 10, .inl f)) = wX cy ad fad (uA σ 16 f) := rfl
theorem wX_a17 (cy : Nat → ClassId) (ad fad : Nat → Nat) (σ : St_) (f : Nat → Int32) : (wX cy ad fad σ).set 17 (ad 17, .inl (cy 0, 10, .inl f)) = wX cy ad fad (uA σ 17 f) := rfl
theorem wX_a18 (cy : Nat → ClassId) (ad fad : Nat → Nat) (σ : St_) (f : Nat → Int32) : (wX cy ad fad σ).set 18 (ad 18, .inl (cy 0, 10, .inl f)) = wX cy ad fad (uA σ 18 f) := rfl
theorem wX_a19 (cy : Nat → ClassId) (ad fad : Nat → Nat) (σ : St_) (f : Nat → Int32) : (wX cy ad fad σ).set 19 (ad 19, .inl (cy 0, 10, .inl f)) = wX cy ad fad (uA σ 19 f) := rfl
theorem wX_a20 (cy : Nat → ClassId) (ad fad : Nat → Nat) (σ : St_) (f : Nat → Int32) : (wX cy ad fad σ).set 20 (ad 20, .inl (cy 0, 10, .inl f)) = wX cy ad fad (uA σ 20 f) := rfl
theorem wX_a21 (cy : Nat → ClassId) (ad fad : Nat → Nat) (σ : St_) (f : Nat → Int32) : (wX cy ad fad σ).set 21 (ad 21, .inl (cy 0, 10, .inl f)) = wX cy ad fad (uA σ 21 f) := rfl
theorem wX_s0 (cy : Nat → ClassId) (ad fad : Nat → Nat) (σ : St_) (v : Int32) : (wX cy ad fad σ).set 24 (ad 24, .inr (3, [.ref (ad 0), .int (sS σ 0)].set 1 (.int v))) = wX cy ad fad (uS σ 0 v) := rfl
theorem wX_s1 (cy : Nat → ClassId) (ad fad : Nat → Nat) (σ : St_) (v : Int32) : (wX cy ad fad σ).set 25 (ad 25, .inr (2, [.ref (ad 1), .ref (ad 2), .int (sS σ 1)].set 2 (.int v))) = wX cy ad fad (uS σ 1 v) := rfl
theorem wX_s2 (cy : Nat → ClassId) (ad fad : Nat → Nat) (σ : St_) (v : Int32) : (wX cy ad fad σ).set 26 (ad 26, .inr (4, [.ref (ad 3), .ref (ad 4), .ref (ad 22), .int (sS σ 2)].set 3 (.int v))) = wX cy ad fad (uS σ 2 v) := rfl
theorem wX_s3 (cy : Nat → ClassId) (ad fad : Nat → Nat) (σ : St_) (v : Int32) : (wX cy ad fad σ).set 27 (ad 27, .inr (1, [.ref (ad 5), .ref (ad 6), .ref (ad 7), .ref (ad 8), .ref (ad 9), .int (sS σ 3), .int (sS σ 4)].set 5 (.int v))) = wX cy ad fad (uS σ 3 v) := rfl
theorem wX_s4 (cy : Nat → ClassId) (ad fad : Nat → Nat) (σ : St_) (v : Int32) : (wX cy ad fad σ).set 27 (ad 27, .inr (1, [.ref (ad 5), .ref (ad 6), .ref (ad 7), .ref (ad 8), .ref (ad 9), .int (sS σ 3), .int (sS σ 4)].set 6 (.int v))) = wX cy ad fad (uS σ 4 v) := rfl
theorem wX_s5 (cy : Nat → ClassId) (ad fad : Nat → Nat) (σ : St_) (v : Int32) : (wX cy ad fad σ).set 28 (ad 28, .inr (5, [.ref (ad 24), .ref (ad 25), .ref (ad 26), .ref (ad 27), .ref (ad 23), .ref (ad 10), .ref (ad 11), .int (sS σ 5), .int (sS σ 6)].set 7 (.int v))) = wX cy ad fad (uS σ 5 v) := rfl
theorem wX_s6 (cy : Nat → ClassId) (ad fad : Nat → Nat) (σ : St_) (v : Int32) : (wX cy ad fad σ).set 28 (ad 28, .inr (5, [.ref (ad 24), .ref (ad 25), .ref (ad 26), .ref (ad 27), .ref (ad 23), .ref (ad 10), .ref (ad 11), .int (sS σ 5), .int (sS σ 6)].set 8 (.int v))) = wX cy ad fad (uS σ 6 v) := rfl
theorem wX_row (cy : Nat → ClassId) (ad fad : Nat → Nat) (σ : St_) : ∀ j : Nat, j < 10 → (wX cy ad fad σ)[12 + j]? = some (ad (12 + j), .inl (cy 0, 10, .inl (sM σ (12 + j)))) := by
  intro j hj
  match j, hj with
  | 0, _ => rfl
  | 1, _ => rfl
  | 2, _ => rfl
  | 3, _ => rfl
  | 4, _ => rfl
  | 5, _ => rfl
  | 6, _ => rfl
  | 7, _ => rfl
  | 8, _ => rfl
  | 9, _ => rfl
  | j + 10, hj => exact absurd hj (by omega)
theorem wX_rowS (cy : Nat → ClassId) (ad fad : Nat → Nat) (σ : St_) (f : Nat → Int32) : ∀ j : Nat, j < 10 → (wX cy ad fad σ).set (12 + j) (ad (12 + j), .inl (cy 0, 10, .inl f)) = wX cy ad fad (uA σ (12 + j) f) := by
  intro j hj
  match j, hj with
  | 0, _ => rfl
  | 1, _ => rfl
  | 2, _ => rfl
  | 3, _ => rfl
  | 4, _ => rfl
  | 5, _ => rfl
  | 6, _ => rfl
  | 7, _ => rfl
  | 8, _ => rfl
  | 9, _ => rfl
  | j + 10, hj => exact absurd hj (by omega)
theorem wXf_len (cy : Nat → ClassId) (ad fad : Nat → Nat) (σ : St_) : (wXf cy ad fad σ).length = 29 := rfl
theorem wX_farm (cy : Nat → ClassId) (ad fad : Nat → Nat) (σ : St_) {i : Nat} (hi : i < sN σ) : (wX cy ad fad σ)[29 + i]? = some (fad i, .inr (0, fr_ σ i)) := by
  unfold wX
  rw [List.getElem?_append_right (by rw [wXf_len]; omega), wXf_len, Nat.add_sub_cancel_left]
  unfold wXp
  rw [List.getElem?_map, List.getElem?_range hi]
  rfl
theorem wX_farmS (cy : Nat → ClassId) (ad fad : Nat → Nat) (σ : St_) {i : Nat} (hi : i < sN σ) (kf : Nat) (hk : kf < 8) (v : Int32) : (wX cy ad fad σ).set (29 + i) (fad i, .inr (0, (fr_ σ i).set kf (.int v))) = wX cy ad fad (uF σ i kf v) := by
  have h1 : (fr_ σ i).set kf (.int v) = fr_ (uF σ i kf v) i := by
    match kf, hk with
    | 0, _ => simp [fr_, sF_uF]
    | 1, _ => simp [fr_, sF_uF]
    | 2, _ => simp [fr_, sF_uF]
    | 3, _ => simp [fr_, sF_uF]
    | 4, _ => simp [fr_, sF_uF]
    | 5, _ => simp [fr_, sF_uF]
    | 6, _ => simp [fr_, sF_uF]
    | 7, _ => simp [fr_, sF_uF]
    | kf + 8, hk => exact absurd hk (by omega)
  rw [h1]
  unfold wX
  rw [List.set_append_right _ _ (by rw [wXf_len]; omega), wXf_len, Nat.add_sub_cancel_left]
  refine congrArg (fun z => wXf cy ad fad σ ++ z) ?_
  unfold wXp
  apply List.ext_getElem?
  intro j
  rw [List.getElem?_set]
  by_cases hj : j < sN σ
  · have hj2 : j < sN (uF σ i kf v) := hj
    rw [List.getElem?_map, List.getElem?_map, List.getElem?_range hj, List.getElem?_range hj2]
    by_cases hij : i = j
    · subst hij
      simp [hj]
    · rw [if_neg hij]
      have hji : ¬ j = i := fun h => hij h.symm
      simp [fr_, sF_uF, hji]
  · have hj2 : ¬ j < sN (uF σ i kf v) := hj
    have hij : ¬ i = j := fun h => hj (by omega)
    rw [if_neg hij]
    rw [List.getElem?_eq_none (by simp; omega), List.getElem?_eq_none (by simp; omega)]
/-- THE REFERENCE'S WORLD -/
def wM (cy : Nat → ClassId) (ad : Nat → Nat) (σ : St_) : va_W := [(ad 0, .inl (cy 2, 60, .inl (sM σ 0))), (ad 5, .inl (cy 0, 6, .inl (sM σ 5))), (ad 6, .inl (cy 0, 6, .inl (sM σ 6))), (ad 7, .inl (cy 0, 10, .inl (sM σ 7))), (ad 8, .inl (cy 0, 10, .inl (sM σ 8))), (ad 9, .inl (cy 0, 8, .inl (sM σ 9))), (ad 10, .inl (cy 1, 10, .inl (sM σ 10))), (ad 11, .inl (cy 0, 10, .inl (sM σ 11))), (ad 12, .inl (cy 0, 10, .inl (sM σ 12))), (ad 13, .inl (cy 0, 10, .inl (sM σ 13))), (ad 14, .inl (cy 0, 10, .inl (sM σ 14))), (ad 15, .inl (cy 0, 10, .inl (sM σ 15))), (ad 16, .inl (cy 1, 100, .inl (sM σ 16))), (ad 17, .inl (cy 1, 100, .inl (sM σ 17))), (ad 18, .inl (cy 1, 100, .inl (sM σ 18))), (ad 19, .inl (cy 0, 100, .inl (sM σ 19))), (ad 20, .inl (cy 1, 100, .inl (sM σ 20))), (ad 21, .inl (cy 1, 100, .inl (sM σ 21))), (ad 22, .inl (cy 1, 100, .inl (sM σ 22))), (ad 23, .inl (cy 0, 10, .inl (sM σ 23))), (ad 24, .inl (cy 0, 10, .inl (sM σ 24))), (ad 25, .inl (cy 0, 10, .inl (sM σ 25))), (ad 26, .inl (cy 0, 10, .inl (sM σ 26))), (ad 27, .inl (cy 0, 20, .inl (sM σ 27))), (ad 28, .inl (cy 0, 10, .inl (sM σ 28))), (ad 29, .inr (6, [.ref (ad 0), .int (sS σ 1), .int (sS σ 2), .int (sS σ 3), .int (sS σ 4), .ref (ad 5), .ref (ad 6), .ref (ad 7), .ref (ad 8), .ref (ad 9), .ref (ad 10), .ref (ad 11), .ref (ad 12), .ref (ad 13), .ref (ad 14), .ref (ad 15), .ref (ad 16), .ref (ad 17), .ref (ad 18), .ref (ad 19), .ref (ad 20), .ref (ad 21), .ref (ad 22), .ref (ad 23), .ref (ad 24), .ref (ad 25), .ref (ad 26), .ref (ad 27), .ref (ad 28)]))]
theorem wM_g0 (cy : Nat → ClassId) (ad : Nat → Nat) (σ : St_) : (wM cy ad σ)[0]? = some (ad 0, .inl (cy 2, 60, .inl (sM σ 0))) := rfl
theorem wM_g5 (cy : Nat → ClassId) (ad : Nat → Nat) (σ : St_) : (wM cy ad σ)[1]? = some (ad 5, .inl (cy 0, 6, .inl (sM σ 5))) := rfl
theorem wM_g6 (cy : Nat → ClassId) (ad : Nat → Nat) (σ : St_) : (wM cy ad σ)[2]? = some (ad 6, .inl (cy 0, 6, .inl (sM σ 6))) := rfl
theorem wM_g7 (cy : Nat → ClassId) (ad : Nat → Nat) (σ : St_) : (wM cy ad σ)[3]? = some (ad 7, .inl (cy 0, 10, .inl (sM σ 7))) := rfl
theorem wM_g8 (cy : Nat → ClassId) (ad : Nat → Nat) (σ : St_) : (wM cy ad σ)[4]? = some (ad 8, .inl (cy 0, 10, .inl (sM σ 8))) := rfl
theorem wM_g9 (cy : Nat → ClassId) (ad : Nat → Nat) (σ : St_) : (wM cy ad σ)[5]? = some (ad 9, .inl (cy 0, 8, .inl (sM σ 9))) := rfl
theorem wM_g10 (cy : Nat → ClassId) (ad : Nat → Nat) (σ : St_) : (wM cy ad σ)[6]? = some (ad 10, .inl (cy 1, 10, .inl (sM σ 10))) := rfl
theorem wM_g11 (cy : Nat → ClassId) (ad : Nat → Nat) (σ : St_) : (wM cy ad σ)[7]? = some (ad 11, .inl (cy 0, 10, .inl (sM σ 11))) := rfl
theorem wM_g12 (cy : Nat → ClassId) (ad : Nat → Nat) (σ : St_) : (wM cy ad σ)[8]? = some (ad 12, .inl (cy 0, 10, .inl (sM σ 12))) := rfl
theorem wM_g13 (cy : Nat → ClassId) (ad : Nat → Nat) (σ : St_) : (wM cy ad σ)[9]? = some (ad 13, .inl (cy 0, 10, .inl (sM σ 13))) := rfl
theorem wM_g14 (cy : Nat → ClassId) (ad : Nat → Nat) (σ : St_) : (wM cy ad σ)[10]? = some (ad 14, .inl (cy 0, 10, .inl (sM σ 14))) := rfl
theorem wM_g15 (cy : Nat → ClassId) (ad : Nat → Nat) (σ : St_) : (wM cy ad σ)[11]? = some (ad 15, .inl (cy 0, 10, .inl (sM σ 15))) := rfl
theorem wM_g16 (cy : Nat → ClassId) (ad : Nat → Nat) (σ : St_) : (wM cy ad σ)[12]? = some (ad 16, .inl (cy 1, 100, .inl (sM σ 16))) := rfl
theorem wM_g17 (cy : Nat → ClassId) (ad : Nat → Nat) (σ : St_) : (wM cy ad σ)[13]? = some (ad 17, .inl (cy 1, 100, .inl (sM σ 17))) := rfl
theorem wM_g18 (cy : Nat → ClassId) (ad : Nat → Nat) (σ : St_) : (wM cy ad σ)[14]? = some (ad 18, .inl (cy 1, 100, .inl (sM σ 18))) := rfl
theorem wM_g19 (cy : Nat → ClassId) (ad : Nat → Nat) (σ : St_) : (wM cy ad σ)[15]? = some (ad 19, .inl (cy 0, 100, .inl (sM σ 19))) := rfl
theorem wM_g20 (cy : Nat → ClassId) (ad : Nat → Nat) (σ : St_) : (wM cy ad σ)[16]? = some (ad 20, .inl (cy 1, 100, .inl (sM σ 20))) := rfl
theorem wM_g21 (cy : Nat → ClassId) (ad : Nat → Nat) (σ : St_) : (wM cy ad σ)[17]? = some (ad 21, .inl (cy 1, 100, .inl (sM σ 21))) := rfl
theorem wM_g22 (cy : Nat → ClassId) (ad : Nat → Nat) (σ : St_) : (wM cy ad σ)[18]? = some (ad 22, .inl (cy 1, 100, .inl (sM σ 22))) := rfl
theorem wM_g23 (cy : Nat → ClassId) (ad : Nat → Nat) (σ : St_) : (wM cy ad σ)[19]? = some (ad 23, .inl (cy 0, 10, .inl (sM σ 23))) := rfl
theorem wM_g24 (cy : Nat → ClassId) (ad : Nat → Nat) (σ : St_) : (wM cy ad σ)[20]? = some (ad 24, .inl (cy 0, 10, .inl (sM σ 24))) := rfl
theorem wM_g25 (cy : Nat → ClassId) (ad : Nat → Nat) (σ : St_) : (wM cy ad σ)[21]? = some (ad 25, .inl (cy 0, 10, .inl (sM σ 25))) := rfl
theorem wM_g26 (cy : Nat → ClassId) (ad : Nat → Nat) (σ : St_) : (wM cy ad σ)[22]? = some (ad 26, .inl (cy 0, 10, .inl (sM σ 26))) := rfl
theorem wM_g27 (cy : Nat → ClassId) (ad : Nat → Nat) (σ : St_) : (wM cy ad σ)[23]? = some (ad 27, .inl (cy 0, 20, .inl (sM σ 27))) := rfl
theorem wM_g28 (cy : Nat → ClassId) (ad : Nat → Nat) (σ : St_) : (wM cy ad σ)[24]? = some (ad 28, .inl (cy 0, 10, .inl (sM σ 28))) := rfl
theorem wM_g29 (cy : Nat → ClassId) (ad : Nat → Nat) (σ : St_) : (wM cy ad σ)[25]? = some (ad 29, .inr (6, [.ref (ad 0), .int (sS σ 1), .int (sS σ 2), .int (sS σ 3), .int (sS σ 4), .ref (ad 5), .ref (ad 6), .ref (ad 7), .ref (ad 8), .ref (ad 9), .ref (ad 10), .ref (ad 11), .ref (ad 12), .ref (ad 13), .ref (ad 14), .ref (ad 15), .ref (ad 16), .ref (ad 17), .ref (ad 18), .ref (ad 19), .ref (ad 20), .ref (ad 21), .ref (ad 22), .ref (ad 23), .ref (ad 24), .ref (ad 25), .ref (ad 26), .ref (ad 27), .ref (ad 28)])) := rfl
theorem wM_a0 (cy : Nat → ClassId) (ad : Nat → Nat) (σ : St_) (f : Nat → Int32) : (wM cy ad σ).set 0 (ad 0, .inl (cy 2, 60, .inl f)) = wM cy ad (uA σ 0 f) := rfl
theorem wM_a5 (cy : Nat → ClassId) (ad : Nat → Nat) (σ : St_) (f : Nat → Int32) : (wM cy ad σ).set 1 (ad 5, .inl (cy 0, 6, .inl f)) = wM cy ad (uA σ 5 f) := rfl
theorem wM_a6 (cy : Nat → ClassId) (ad : Nat → Nat) (σ : St_) (f : Nat → Int32) : (wM cy ad σ).set 2 (ad 6, .inl (cy 0, 6, .inl f)) = wM cy ad (uA σ 6 f) := rfl
theorem wM_a7 (cy : Nat → ClassId) (ad : Nat → Nat) (σ : St_) (f : Nat → Int32) : (wM cy ad σ).set 3 (ad 7, .inl (cy 0, 10, .inl f)) = wM cy ad (uA σ 7 f) := rfl
theorem wM_a8 (cy : Nat → ClassId) (ad : Nat → Nat) (σ : St_) (f : Nat → Int32) : (wM cy ad σ).set 4 (ad 8, .inl (cy 0, 10, .inl f)) = wM cy ad (uA σ 8 f) := rfl
theorem wM_a9 (cy : Nat → ClassId) (ad : Nat → Nat) (σ : St_) (f : Nat → Int32) : (wM cy ad σ).set 5 (ad 9, .inl (cy 0, 8, .inl f)) = wM cy ad (uA σ 9 f) := rfl
theorem wM_a10 (cy : Nat → ClassId) (ad : Nat → Nat) (σ : St_) (f : Nat → Int32) : (wM cy ad σ).set 6 (ad 10, .inl (cy 1, 10, .inl f)) = wM cy ad (uA σ 10 f) := rfl
theorem wM_a11 (cy : Nat → ClassId) (ad : Nat → Nat) (σ : St_) (f : Nat → Int32) : (wM cy ad σ).set 7 (ad 11, .inl (cy 0, 10, .inl f)) = wM cy ad (uA σ 11 f) := rfl
theorem wM_a12 (cy : Nat → ClassId) (ad : Nat → Nat) (σ : St_) (f : Nat → Int32) : (wM cy ad σ).set 8 (ad 12, .inl (cy 0, 10, .inl f)) = wM cy ad (uA σ 12 f) := rfl
theorem wM_a13 (cy : Nat → ClassId) (ad : Nat → Nat) (σ : St_) (f : Nat → Int32) : (wM cy ad σ).set 9 (ad 13, .inl (cy 0, 10, .inl f)) = wM cy ad (uA σ 13 f) := rfl
theorem wM_a14 (cy : Nat → ClassId) (ad : Nat → Nat) (σ : St_) (f : Nat → Int32) : (wM cy ad σ).set 10 (ad 14, .inl (cy 0, 10, .inl f)) = wM cy ad (uA σ 14 f) := rfl
theorem wM_a15 (cy : Nat → ClassId) (ad : Nat → Nat) (σ : St_) (f : Nat → Int32) : (wM cy ad σ).set 11 (ad 15, .inl (cy 0, 10, .inl f)) = wM cy ad (uA σ 15 f) := rfl
theorem wM_a16 (cy : Nat → ClassId) (ad : Nat → Nat) (σ : St_) (f : Nat → Int32) : (wM cy ad σ).set 12 (ad 16, .inl (cy 1, 100, .inl f)) = wM cy ad (uA σ 16 f) := rfl
theorem wM_a17 (cy : Nat → ClassId) (ad : Nat → Nat) (σ : St_) (f : Nat → Int32) : (wM cy ad σ).set 13 (ad 17, .inl (cy 1, 100, .inl f)) = wM cy ad (uA σ 17 f) := rfl
theorem wM_a18 (cy : Nat → ClassId) (ad : Nat → Nat) (σ : St_) (f : Nat → Int32) : (wM cy ad σ).set 14 (ad 18, .inl (cy 1, 100, .inl f)) = wM cy ad (uA σ 18 f) := rfl
theorem wM_a19 (cy : Nat → ClassId) (ad : Nat → Nat) (σ : St_) (f : Nat → Int32) : (wM cy ad σ).set 15 (ad 19, .inl (cy 0, 100, .inl f)) = wM cy ad (uA σ 19 f) := rfl
theorem wM_a20 (cy : Nat → ClassId) (ad : Nat → Nat) (σ : St_) (f : Nat → Int32) : (wM cy ad σ).set 16 (ad 20, .inl (cy 1, 100, .inl f)) = wM cy ad (uA σ 20 f) := rfl
theorem wM_a21 (cy : Nat → ClassId) (ad : Nat → Nat) (σ : St_) (f : Nat → Int32) : (wM cy ad σ).set 17 (ad 21, .inl (cy 1, 100, .inl f)) = wM cy ad (uA σ 21 f) := rfl
theorem wM_a22 (cy : Nat → ClassId) (ad : Nat → Nat) (σ : St_) (f : Nat → Int32) : (wM cy ad σ).set 18 (ad 22, .inl (cy 1, 100, .inl f)) = wM cy ad (uA σ 22 f) := rfl
theorem wM_a23 (cy : Nat → ClassId) (ad : Nat → Nat) (σ : St_) (f : Nat → Int32) : (wM cy ad σ).set 19 (ad 23, .inl (cy 0, 10, .inl f)) = wM cy ad (uA σ 23 f) := rfl
theorem wM_a24 (cy : Nat → ClassId) (ad : Nat → Nat) (σ : St_) (f : Nat → Int32) : (wM cy ad σ).set 20 (ad 24, .inl (cy 0, 10, .inl f)) = wM cy ad (uA σ 24 f) := rfl
theorem wM_a25 (cy : Nat → ClassId) (ad : Nat → Nat) (σ : St_) (f : Nat → Int32) : (wM cy ad σ).set 21 (ad 25, .inl (cy 0, 10, .inl f)) = wM cy ad (uA σ 25 f) := rfl
theorem wM_a26 (cy : Nat → ClassId) (ad : Nat → Nat) (σ : St_) (f : Nat → Int32) : (wM cy ad σ).set 22 (ad 26, .inl (cy 0, 10, .inl f)) = wM cy ad (uA σ 26 f) := rfl
theorem wM_a27 (cy : Nat → ClassId) (ad : Nat → Nat) (σ : St_) (f : Nat → Int32) : (wM cy ad σ).set 23 (ad 27, .inl (cy 0, 20, .inl f)) = wM cy ad (uA σ 27 f) := rfl
theorem wM_a28 (cy : Nat → ClassId) (ad : Nat → Nat) (σ : St_) (f : Nat → Int32) : (wM cy ad σ).set 24 (ad 28, .inl (cy 0, 10, .inl f)) = wM cy ad (uA σ 28 f) := rfl
theorem wM_s1 (cy : Nat → ClassId) (ad : Nat → Nat) (σ : St_) (v : Int32) : (wM cy ad σ).set 25 (ad 29, .inr (6, [.ref (ad 0), .int (sS σ 1), .int (sS σ 2), .int (sS σ 3), .int (sS σ 4), .ref (ad 5), .ref (ad 6), .ref (ad 7), .ref (ad 8), .ref (ad 9), .ref (ad 10), .ref (ad 11), .ref (ad 12), .ref (ad 13), .ref (ad 14), .ref (ad 15), .ref (ad 16), .ref (ad 17), .ref (ad 18), .ref (ad 19), .ref (ad 20), .ref (ad 21), .ref (ad 22), .ref (ad 23), .ref (ad 24), .ref (ad 25), .ref (ad 26), .ref (ad 27), .ref (ad 28)].set 1 (.int v))) = wM cy ad (uS σ 1 v) := rfl
theorem wM_s2 (cy : Nat → ClassId) (ad : Nat → Nat) (σ : St_) (v : Int32) : (wM cy ad σ).set 25 (ad 29, .inr (6, [.ref (ad 0), .int (sS σ 1), .int (sS σ 2), .int (sS σ 3), .int (sS σ 4), .ref (ad 5), .ref (ad 6), .ref (ad 7), .ref (ad 8), .ref (ad 9), .ref (ad 10), .ref (ad 11), .ref (ad 12), .ref (ad 13), .ref (ad 14), .ref (ad 15), .ref (ad 16), .ref (ad 17), .ref (ad 18), .ref (ad 19), .ref (ad 20), .ref (ad 21), .ref (ad 22), .ref (ad 23), .ref (ad 24), .ref (ad 25), .ref (ad 26), .ref (ad 27), .ref (ad 28)].set 2 (.int v))) = wM cy ad (uS σ 2 v) := rfl
theorem wM_s3 (cy : Nat → ClassId) (ad : Nat → Nat) (σ : St_) (v : Int32) : (wM cy ad σ).set 25 (ad 29, .inr (6, [.ref (ad 0), .int (sS σ 1), .int (sS σ 2), .int (sS σ 3), .int (sS σ 4), .ref (ad 5), .ref (ad 6), .ref (ad 7), .ref (ad 8), .ref (ad 9), .ref (ad 10), .ref (ad 11), .ref (ad 12), .ref (ad 13), .ref (ad 14), .ref (ad 15), .ref (ad 16), .ref (ad 17), .ref (ad 18), .ref (ad 19), .ref (ad 20), .ref (ad 21), .ref (ad 22), .ref (ad 23), .ref (ad 24), .ref (ad 25), .ref (ad 26), .ref (ad 27), .ref (ad 28)].set 3 (.int v))) = wM cy ad (uS σ 3 v) := rfl
theorem wM_s4 (cy : Nat → ClassId) (ad : Nat → Nat) (σ : St_) (v : Int32) : (wM cy ad σ).set 25 (ad 29, .inr (6, [.ref (ad 0), .int (sS σ 1), .int (sS σ 2), .int (sS σ 3), .int (sS σ 4), .ref (ad 5), .ref (ad 6), .ref (ad 7), .ref (ad 8), .ref (ad 9), .ref (ad 10), .ref (ad 11), .ref (ad 12), .ref (ad 13), .ref (ad 14), .ref (ad 15), .ref (ad 16), .ref (ad 17), .ref (ad 18), .ref (ad 19), .ref (ad 20), .ref (ad 21), .ref (ad 22), .ref (ad 23), .ref (ad 24), .ref (ad 25), .ref (ad 26), .ref (ad 27), .ref (ad 28)].set 4 (.int v))) = wM cy ad (uS σ 4 v) := rfl
end
section
def FU_ : Nat := 300
theorem tysW_0 (cy : Nat → ClassId) : (tysW cy)[0]? = some (cy 0, .int) := rfl
theorem tysW_1 (cy : Nat → ClassId) : (tysW cy)[1]? = some (cy 1, .boolean) := rfl
theorem tysW_2 (cy : Nat → ClassId) : (tysW cy)[2]? = some (cy 2, .byte) := rfl
theorem tysW_3 (cy : Nat → ClassId) : (tysW cy)[3]? = some (cy 3, .object "PeerCircle$Farm") := rfl
theorem tysW_4 (cy : Nat → ClassId) : (tysW cy)[4]? = some (cy 4, .array .int) := rfl
/-- what the class asks beside its world: the links within the nest, the constants' arrays and text -/
def eN (U : State) : Prop := va_Nw (.methodLinkNest RX1 59 yX5_hasBit "PeerCircle") U ∧ va_Nw (.methodLinkNest RX1 76 yX5_isBelow "PeerCircle") U ∧ va_Nw (.methodLinkNest RX2 31 yX5_isBelow "PeerCircle") U ∧ va_Nw (.methodLinkNest RX3 17 yX5_isBelow "PeerCircle") U ∧ va_Nw (.methodLinkNest RX4 27 yX5_hasBit "PeerCircle") U ∧ va_Nw (.methodLinkNest RX4 40 yX5_oneIf "PeerCircle") U
def lsA : List Int32 := [3, 3, 3, 9, 2, 60]
def lsL : List Int32 := [1, 0, 1, 1, 1, 0]
def lsM : List Int32 := [5, 9, 9999, 9999, 20, 100]
def lsT : List Int32 := [110, 118, 119, 120, 98, 103]
def eS (A : Nat → Prop) (U : State) : Prop := ∃ (tA tL tM : Nat) (aK aV : Nat → Nat), (va_Z "PeerCircle$Rules" "AT_FIRST" "[I" (.ref tA) A U U.heap ∧ va_T .int tA 6 (fun j => .int (lsA.getD j 0)) A U U.heap) ∧ (va_Z "PeerCircle$Rules" "LEAST" "[I" (.ref tL) A U U.heap ∧ va_T .int tL 6 (fun j => .int (lsL.getD j 0)) A U U.heap) ∧ (va_Z "PeerCircle$Rules" "MOST" "[I" (.ref tM) A U U.heap ∧ va_T .int tM 6 (fun j => .int (lsM.getD j 0)) A U U.heap) ∧ va_Z "java/lang/String" "COMPACT_STRINGS" "Z" (.int 1) A U U.heap ∧ vk_R "PeerCircle$Rules" 69 "nvwxbg" (aK 0) U ∧ vk_S 1 [6] [lsT] aK aV A U U.heap
def eX (A : Nat → Prop) (U : State) : Prop := eN U ∧ eS A U
theorem eX_ok : ct_E eX := by
  refine ⟨fun A a U g mk h => ?_, fun A B s U h hW hAB hk => ?_⟩
  · obtain ⟨⟨h1, h2, h3, h4, h5, h6⟩, tA, tL, tM, aK, aV, ⟨a1, a2⟩, ⟨b1, b2⟩, ⟨c1, c2⟩, d1, d2, d3⟩ := h
    have hv : U.vm.Alike (U.calling g mk a).vm := Vm.Alike.refl U.vm
    exact ⟨⟨va_Nw.same rfl (u := U) rfl h1, va_Nw.same rfl (u := U) rfl h2, va_Nw.same rfl (u := U) rfl h3, va_Nw.same rfl (u := U) rfl h4, va_Nw.same rfl (u := U) rfl h5, va_Nw.same rfl (u := U) rfl h6⟩, tA, tL, tM, aK, aV, ⟨va_Z.moved (u := U) hv a1, va_T.moved (u := U) hv a2⟩, ⟨va_Z.moved (u := U) hv b1, va_T.moved (u := U) hv b2⟩, ⟨va_Z.moved (u := U) hv c1, va_T.moved (u := U) hv c2⟩, va_Z.moved (u := U) hv d1, vk_R.same (u := U) rfl d2, vk_S.moved (u := U) hv d3⟩
  · obtain ⟨⟨h1, h2, h3, h4, h5, h6⟩, tA, tL, tM, aK, aV, ⟨a1, a2⟩, ⟨b1, b2⟩, ⟨c1, c2⟩, d1, d2, d3⟩ := h
    have hv := hW.alike
    have z : ∀ {C n d : String} {v : Value}, va_Z C n d v A s s.heap → va_Z C n d v B U U.heap := fun h => ((va_Z.moved hv h).kept hk).narrow hAB
    have t : ∀ {ty : FieldType} {t N : Nat} {f : Nat → Value}, va_T ty t N f A s s.heap → va_T ty t N f B U U.heap := fun h => ((va_T.moved hv h).kept hk).narrow hAB
    exact ⟨⟨va_Nw.warmM hW h1, va_Nw.warmM hW h2, va_Nw.warmM hW h3, va_Nw.warmM hW h4, va_Nw.warmM hW h5, va_Nw.warmM hW h6⟩, tA, tL, tM, aK, aV, ⟨z a1, t a2⟩, ⟨z b1, t b2⟩, ⟨z c1, t c2⟩, z d1, vk_R.warm hW d2, ((vk_S.moved hv d3).kept hk).narrow hAB⟩
theorem eX_nX1_59 {A : Nat → Prop} {s : State} (h : eX A s) : va_Nw (.methodLinkNest RX1 59 yX5_hasBit "PeerCircle") s := h.1.1
theorem eX_nX1_76 {A : Nat → Prop} {s : State} (h : eX A s) : va_Nw (.methodLinkNest RX1 76 yX5_isBelow "PeerCircle") s := h.1.2.1
theorem eX_nX2_31 {A : Nat → Prop} {s : State} (h : eX A s) : va_Nw (.methodLinkNest RX2 31 yX5_isBelow "PeerCircle") s := h.1.2.2.1
theorem eX_nX3_17 {A : Nat → Prop} {s : State} (h : eX A s) : va_Nw (.methodLinkNest RX3 17 yX5_isBelow "PeerCircle") s := h.1.2.2.2.1
theorem eX_nX4_27 {A : Nat → Prop} {s : State} (h : eX A s) : va_Nw (.methodLinkNest RX4 27 yX5_hasBit "PeerCircle") s := h.1.2.2.2.2.1
theorem eX_nX4_40 {A : Nat → Prop} {s : State} (h : eX A s) : va_Nw (.methodLinkNest RX4 40 yX5_oneIf "PeerCircle") s := h.1.2.2.2.2.2
section VVB
variable {p : Program} {l : Launch} {e : Env} {R : Room} {s : State} {m : MethodId} {args : Array Value} {below : List Frame} {meth : Method} {c : Code} {D : va_G} {tys : List (ClassId × FieldType)} {A : Nat → Prop} {nL : Nat} {Q : State → Prop} {n k : Nat} {w : va_W} {lv : List (Nat × Value)} {pc : Nat} {st : List Value}
variable {cc : ByteArray} {own : String} {Ts : List Cond}
theorem vv_ldcw (C : vv_X p s m args meth c D tys A nL cc own Ts) {idx : Nat} {v : Int32} (hm : Cond.constant own idx v ∈ Ts) (hd : decode cc pc = .ok (.ldc_w idx, 3)) (h : vv_ p l e R s m args below meth c D A nL Q n k w lv (pc + 3) (.int v :: st)) : vv_ p l e R s m args below meth c D A nL Q n k w lv pc st := fun H locs ls hP hD hS hL => lv_ldcw C.1.1 C.1.2.1 C.1.2.2.2.1 (C.1.2.2.2.2 _ hm) hd (h H locs ls hP hD hS hL)
theorem vv_null (C : vv_X p s m args meth c D tys A nL cc own Ts) (hd : decode cc pc = .ok (.aconst_null, 1)) (h : vv_ p l e R s m args below meth c D A nL Q n k w lv (pc + 1) (.null :: st)) : vv_ p l e R s m args below meth c D A nL Q n k w lv pc st := fun H locs ls hP hD hS hL => lv_null C.1.1 C.1.2.1 hd (h H locs ls hP hD hS hL)
theorem vv_ifnull (C : vv_X p s m args meth c D tys A nL cc own Ts) {x : Nat} {off : Int} (hd : decode cc pc = .ok (.ifnull off, 3)) (h : vv_ p l e R s m args below meth c D A nL Q n k w lv (pc + 3) st) : vv_ p l e R s m args below meth c D A nL Q n k w lv pc (.ref x :: st) := fun H locs ls hP hD hS hL => lv_ifnull C.1.1 C.1.2.1 hd (h H locs ls hP hD hS hL)
theorem vv_ifnullN (C : vv_X p s m args meth c D tys A nL cc own Ts) {off : Int} {tgt : Nat} (hd : decode cc pc = .ok (.ifnull off, 3)) (ht : (pc : Int) + off = (tgt : Int)) (h : vv_ p l e R s m args below meth c D A nL Q n k w lv tgt st) : vv_ p l e R s m args below meth c D A nL Q n k w lv pc (.null :: st) := fun H locs ls hP hD hS hL => lv_ifnullN C.1.1 C.1.2.1 hd ht (h H locs ls hP hD hS hL)
theorem vv_ifnonnull (C : vv_X p s m args meth c D tys A nL cc own Ts) {x : Nat} {off : Int} {tgt : Nat} (hd : decode cc pc = .ok (.ifnonnull off, 3)) (ht : (pc : Int) + off = (tgt : Int)) (h : vv_ p l e R s m args below meth c D A nL Q n k w lv tgt st) : vv_ p l e R s m args below meth c D A nL Q n k w lv pc (.ref x :: st) := fun H locs ls hP hD hS hL => lv_ifnonnull C.1.1 C.1.2.1 hd ht (h H locs ls hP hD hS hL)
theorem vv_ifnonnullN (C : vv_X p s m args meth c D tys A nL cc own Ts) {off : Int} (hd : decode cc pc = .ok (.ifnonnull off, 3)) (h : vv_ p l e R s m args below meth c D A nL Q n k w lv (pc + 3) st) : vv_ p l e R s m args below meth c D A nL Q n k w lv pc (.null :: st) := fun H locs ls hP hD hS hL => lv_ifnonnullN C.1.1 C.1.2.1 hd (h H locs ls hP hD hS hL)
theorem vv_tableIn (C : vv_X p s m args meth c D tys A nL cc own Ts) {x : Int32} (v : Int32) (hx : x = v) {dflt lo hi : Int} {offs : Array Int} {len : Nat} {off : Int} {tgt : Nat} (hd : decode cc pc = .ok (.tableswitch dflt lo hi offs, len)) (h1 : ¬ v.toInt < lo) (h2 : ¬ hi < v.toInt) (ho : offs[(v.toInt - lo).toNat]? = some off) (ht : (pc : Int) + off = (tgt : Int)) (h : vv_ p l e R s m args below meth c D A nL Q n k w lv tgt st) : vv_ p l e R s m args below meth c D A nL Q n k w lv pc (.int x :: st) := by
  subst hx
  exact fun H locs ls hP hD hS hL => lv_tableIn C.1.1 C.1.2.1 hd h1 h2 ho ht (h H locs ls hP hD hS hL)
theorem vv_tableOut (C : vv_X p s m args meth c D tys A nL cc own Ts) {x : Int32} {dflt lo hi : Int} {offs : Array Int} {len : Nat} {tgt : Nat} (hd : decode cc pc = .ok (.tableswitch dflt lo hi offs, len)) (ho : x.toInt < lo ∨ hi < x.toInt) (ht : (pc : Int) + dflt = (tgt : Int)) (h : vv_ p l e R s m args below meth c D A nL Q n k w lv tgt st) : vv_ p l e R s m args below meth c D A nL Q n k w lv pc (.int x :: st) := fun H locs ls hP hD hS hL => lv_tableOut C.1.1 C.1.2.1 hd ho ht (h H locs ls hP hD hS hL)
theorem vv_lookup (C : vv_X p s m args meth c D tys A nL cc own Ts) {x : Int32} {dflt : Int} {ps : Array (Int × Int)} {len : Nat} {off : Int} {tgt : Nat} (hd : decode cc pc = .ok (.lookupswitch dflt ps, len)) (hp : (ps.toList.zip (ps.toList.drop 1)).all (fun (a, next) => a.1 < next.1) = true) (ho : Op.lookupswitch.offset ps.toList dflt x.toInt = off) (ht : (pc : Int) + off = (tgt : Int)) (h : vv_ p l e R s m args below meth c D A nL Q n k w lv tgt st) : vv_ p l e R s m args below meth c D A nL Q n k w lv pc (.int x :: st) := fun H locs ls hP hD hS hL => lv_lookup C.1.1 C.1.2.1 hd hp ho ht (h H locs ls hP hD hS hL)
theorem vv_aldq {α : Type} {K : Nat → Option α} {res : α} (C : vv_X p s m args meth c D tys A nL cc own Ts) (q t : Nat) {a : Nat} {cA : ClassId} {len : Nat} {f : Nat → Option Nat} {Cn : String} (ha : w[q]? = some (a, .inl (cA, len, .inr (.inr (.inr (.inr f)))))) (ht : tys[t]? = some (cA, .object Cn)) {i : Int32} (hF : gd_ i len K = some res) (hd : decode cc pc = .ok (.aaload, 1)) (h : ∀ j : Nat, j < len → K j = some res → vv_ p l e R s m args below meth c D A nL Q n k w lv (pc + 1) (va_rf (f j) :: st)) : vv_ p l e R s m args below meth c D A nL Q n k w lv pc (.int i :: .ref a :: st) := fun H locs ls hP hD hS hL => va_aldq C.1.1 C.1.2.1 C.2.1 hP q t ha ht (gd_some hF).1 hd (h _ (gd_some hF).2.1 (gd_some hF).2.2 H locs ls hP hD hS hL)
theorem vv_aldA {α : Type} {K : Nat → Option α} {res : α} (C : vv_X p s m args meth c D tys A nL cc own Ts) (q t : Nat) {a : Nat} {cA : ClassId} {len : Nat} {f : Nat → Option Nat} {ty : FieldType} (ha : w[q]? = some (a, .inl (cA, len, .inr (.inr (.inr (.inr f)))))) (ht : tys[t]? = some (cA, .array ty)) {i : Int32} (hF : gd_ i len K = some res) (hd : decode cc pc = .ok (.aaload, 1)) (h : ∀ j : Nat, j < len → K j = some res → vv_ p l e R s m args below meth c D A nL Q n k w lv (pc + 1) (va_rf (f j) :: st)) : vv_ p l e R s m args below meth c D A nL Q n k w lv pc (.int i :: .ref a :: st) := fun H locs ls hP hD hS hL =>
  W.aald (v := va_rf (f i.toNatClampNeg)) (ty := .array ty) C.1.1 C.1.2.1 (hP q _ ha) ((C.2.1.2 t _ ht).1 len (fun j => va_rf (f j))) rfl (fun q => by cases q) (by show ¬ (i < 0 ∨ (arrV _ _ _).slots.size ≤ _); rw [arrV_size]; exact (gd_some hF).1) (by show (arrV _ _ _).slots[_]? = _; rw [arrV_read _ _ (gd_some hF).2.1]) rfl rfl hd (h _ (gd_some hF).2.1 (gd_some hF).2.2 H locs ls hP hD hS hL)
end VVB
end
section
/-! rows over the constants: static arrays, the text of the letters, System.arraycopy, Math.max and min -/
/-- the one text, at the cell q, its bytes at v -/
def eQ (q v : Nat) (A : Nat → Prop) (U : State) : Prop := va_Z "java/lang/String" "COMPACT_STRINGS" "Z" (.int 1) A U U.heap ∧ vk_S 1 [6] [lsT] (fun _ => q) (fun _ => v) A U U.heap
theorem eQ_ok (q v : Nat) : ct_E (eQ q v) := by
  refine ⟨fun A a U g mk h => ?_, fun A B s U h hW hAB hk => ?_⟩
  · have hv : U.vm.Alike (U.calling g mk a).vm := Vm.Alike.refl U.vm
    exact ⟨va_Z.moved (u := U) hv h.1, vk_S.moved (u := U) hv h.2⟩
  · have hv := hW.alike
    exact ⟨((va_Z.moved hv h.1).kept hk).narrow hAB, ((vk_S.moved hv h.2).kept hk).narrow hAB⟩
theorem eX_Q {A : Nat → Prop} {s : State} (h : eX A s) : ∃ q v : Nat, vk_R "PeerCircle$Rules" 69 "nvwxbg" q s ∧ eQ q v A s := by
  obtain ⟨-, tA, tL, tM, aK, aV, -, -, -, d1, d2, d3⟩ := h
  refine ⟨aK 0, aV 0, d2, d1, fun i hi => ?_, fun i j hi hj _ => by omega⟩
  have h0 : i = 0 := by omega
  subst h0
  exact d3.1 0 hi
section VVD
variable {p : Program} {l : Launch} {e : Env} {R : Room} {s : State} {m : MethodId} {args : Array Value} {below : List Frame} {meth : Method} {c : Code} {D : va_G} {tys : List (ClassId × FieldType)} {A : Nat → Prop} {nL : Nat} {Q : State → Prop} {n k : Nat} {w : va_W} {lv : List (Nat × Value)} {pc : Nat} {st : List Value}
variable {cc : ByteArray} {own : String} {Ts : List Cond} {E : (Nat → Prop) → State → Prop}
theorem vv_gets (C : vv_X p s m args meth c D tys A nL cc own Ts) {Cn nm d : String} {v : Value} {idx : Nat} (hZ : va_Z Cn nm d v A s s.heap) (hm : Cond.fieldLink own idx Cn nm d ∈ Ts) (hd : decode cc pc = .ok (.getstatic idx, 3)) (h : vv_ p l e R s m args below meth c D A nL Q n k w lv (pc + 3) (v :: st)) : vv_ p l e R s m args below meth c D A nL Q n k w lv pc st := fun H locs ls hP hD hS hL => va_gets C.1.1 C.1.2.1 hZ hS C.1.2.2.2.1 (C.1.2.2.2.2 _ hm) (fun _ h9 => h9) hd (h H locs ls hP hD hS hL)
theorem vv_ti {α : Type} {K : Nat → Option α} {res : α} (C : vv_X p s m args meth c D tys A nL cc own Ts) {t len : Nat} {f : Nat → Int32} (hT : va_T .int t len (fun j => .int (f j)) A s s.heap) {i : Int32} (hF : gd_ i len K = some res) (hd : decode cc pc = .ok (.iaload, 1)) (h : ∀ j : Nat, j < len → K j = some res → vv_ p l e R s m args below meth c D A nL Q n k w lv (pc + 1) (.int (f j) :: st)) : vv_ p l e R s m args below meth c D A nL Q n k w lv pc (.int i :: .ref t :: st) := fun H locs ls hP hD hS hL => va_ti C.1.1 C.1.2.1 hT hS (gd_some hF).1 rfl hd (h _ (gd_some hF).2.1 (gd_some hF).2.2 H locs ls hP hD hS hL)
theorem vv_tb {α : Type} {K : Nat → Option α} {res : α} (C : vv_X p s m args meth c D tys A nL cc own Ts) {t len : Nat} {f : Nat → Int32} (hT : va_T .byte t len (fun j => .int (f j)) A s s.heap) {i : Int32} (hF : gd_ i len K = some res) (hd : decode cc pc = .ok (.baload, 1)) (h : ∀ j : Nat, j < len → K j = some res → vv_ p l e R s m args below meth c D A nL Q n k w lv (pc + 1) (.int (f j) :: st)) : vv_ p l e R s m args below meth c D A nL Q n k w lv pc (.int i :: .ref t :: st) := fun H locs ls hP hD hS hL => va_tb C.1.1 C.1.2.1 hT hS (gd_some hF).1 rfl hd (h _ (gd_some hF).2.1 (gd_some hF).2.2 H locs ls hP hD hS hL)
theorem vv_tlen (C : vv_X p s m args meth c D tys A nL cc own Ts) {t len : Nat} {f : Nat → Value} {ty : FieldType} (hT : va_T ty t len f A s s.heap) {v : Int32} (hv : Int32.ofNat len = v) (hd : decode cc pc = .ok (.arraylength, 1)) (h : vv_ p l e R s m args below meth c D A nL Q n k w lv (pc + 1) (.int v :: st)) : vv_ p l e R s m args below meth c D A nL Q n k w lv pc (.ref t :: st) := fun H locs ls hP hD hS hL => va_tlen C.1.1 C.1.2.1 hT hS hv hd (h H locs ls hP hD hS hL)
theorem vv_gf (C : vv_X p s m args meth c D tys A nL cc own Ts) {o nm d : String} {idx q : Nat} {v : Value} (hE : va_OF o nm d v q A s s.heap) (hm : Cond.fieldLink own idx o nm d ∈ Ts) (hd : decode cc pc = .ok (.getfield idx, 3)) (h : vv_ p l e R s m args below meth c D A nL Q n k w lv (pc + 3) (v :: st)) : vv_ p l e R s m args below meth c D A nL Q n k w lv pc (.ref q :: st) := fun H locs ls hP hD hS hL => vk_getf C.1.1 C.1.2.1 hE hS C.1.2.2.2.1 (C.1.2.2.2.2 _ hm) (fun _ h9 => h9) hd (h H locs ls hP hD hS hL)
theorem vv_ldcS (C : vv_X p s m args meth c D tys A nL cc own Ts) {tx : String} {idx q : Nat} (hZ : vk_R own idx tx q s) (hd : decode cc pc = .ok (.ldc idx, 2)) (h : vv_ p l e R s m args below meth c D A nL Q n k w lv (pc + 2) (.ref q :: st)) : vv_ p l e R s m args below meth c D A nL Q n k w lv pc st := fun H locs ls hP hD hS hL => va_ldcS C.1.1 C.1.2.1 C.1.2.2.2.1 hZ hd (h H locs ls hP hD hS hL)
theorem vv_mmax (C : vv_X p s m args meth c D tys A nL cc own Ts) {idx : Nat} {x y : Int32} (h1 : Cond.methodLink own idx Lib.Math.max.name ∈ Ts) (h2 : Cond.static Lib.Math.max.name ∈ Ts) (h3 : Cond.initialized "java/lang/Math" ∈ Ts) (h4 : Cond.code Lib.Math.max.name Lib.Math.max.code 2 (some .int) ∈ Ts) (hf : 1 ≤ R.frames) (hlo : (st.map fun v => v.category).sum + 13 ≤ R.locals) (hnk : n ≤ R.cells ∧ k ≤ R.slots) (hd : decode cc pc = .ok (.invokestatic idx, 3)) (h : vv_ p l e R s m args below meth c D A nL Q n k w lv (pc + 3) (.int (if x < y then y else x) :: st)) : vv_ p l e R s m args below meth c D A nL Q n k w lv pc (.int y :: .int x :: st) := fun H locs ls hP hD hS hL => va_mmax C.1.1 C.1.2.1 (C.1.2.2.1.trans hL.1.symm) C.1.2.2.2.1 (C.1.2.2.2.2 _ h1) (C.1.2.2.2.2 _ h2) (C.1.2.2.2.2 _ h3) (C.1.2.2.2.2 _ h4) hf hlo hnk.1 hnk.2 hd (h H locs ls hP hD hS hL)
theorem vv_mmin (C : vv_X p s m args meth c D tys A nL cc own Ts) {idx : Nat} {x y : Int32} (h1 : Cond.methodLink own idx Lib.Math.min.name ∈ Ts) (h2 : Cond.static Lib.Math.min.name ∈ Ts) (h3 : Cond.initialized "java/lang/Math" ∈ Ts) (h4 : Cond.code Lib.Math.min.name Lib.Math.min.code 2 (some .int) ∈ Ts) (hf : 1 ≤ R.frames) (hlo : (st.map fun v => v.category).sum + 13 ≤ R.locals) (hnk : n ≤ R.cells ∧ k ≤ R.slots) (hd : decode cc pc = .ok (.invokestatic idx, 3)) (h : vv_ p l e R s m args below meth c D A nL Q n k w lv (pc + 3) (.int (if y < x then y else x) :: st)) : vv_ p l e R s m args below meth c D A nL Q n k w lv pc (.int y :: .int x :: st) := fun H locs ls hP hD hS hL => va_mmin C.1.1 C.1.2.1 (C.1.2.2.1.trans hL.1.symm) C.1.2.2.2.1 (C.1.2.2.2.2 _ h1) (C.1.2.2.2.2 _ h2) (C.1.2.2.2.2 _ h3) (C.1.2.2.2.2 _ h4) hf hlo hnk.1 hnk.2 hd (h H locs ls hP hD hS hL)
/-- System.arraycopy from the first place on, within the world -/
theorem vv_copyi (C : vv_X p s m args meth c D tys A nL cc own Ts) {idx : Nat} (h1 : Cond.methodLink own idx arraycopyName ∈ Ts) (h2 : Cond.native arraycopyName ∈ Ts) (h3 : Cond.static arraycopyName ∈ Ts) (h4 : Cond.initialized "java/lang/System" ∈ Ts) (q0 q1 t : Nat) {a0 a1 : Nat} {cA : ClassId} {n0 n1 : Nat} {f g : Nat → Int32} (ha0 : w[q0]? = some (a0, .inl (cA, n0, .inl f))) (ha1 : w[q1]? = some (a1, .inl (cA, n1, .inl g))) (ht : tys[t]? = some (cA, .int)) {cnt : Int32} (N : Nat) (hc0 : ¬ cnt < 0) (hc : cnt.toNatClampNeg = N) (hn0 : N ≤ n0) (hn1 : N ≤ n1) (hf : 1 ≤ R.frames) (hlo : (st.map fun v => v.category).sum + 18 ≤ R.locals) (hd : decode cc pc = .ok (.invokestatic idx, 3)) {w' : va_W} (hw : w.set q1 (a1, .inl (cA, n1, .inl (va_cpy f g 0 0 N))) = w') (h : vv_ p l e R s m args below meth c D A nL Q n k w' lv (pc + 3) st) : vv_ p l e R s m args below meth c D A nL Q n k w lv pc (.int cnt :: .int 0 :: .ref a1 :: .int 0 :: .ref a0 :: st) := fun H locs ls hP hD hS hL => by
  subst hc
  refine va_copyi C.1.1 C.1.2.1 (C.1.2.2.1.trans hL.1.symm) C.1.2.2.2.1 (C.1.2.2.2.2 _ h1) (C.1.2.2.2.2 _ h2) (C.1.2.2.2.2 _ h3) (C.1.2.2.2.2 _ h4) C.2.1 hP hD hS q0 q1 t t ha0 ha1 ht ht rfl (by decide) (by decide) hc0 (by rw [show (0 : Int32).toNatClampNeg = 0 from rfl]; omega) (by rw [show (0 : Int32).toNatClampNeg = 0 from rfl]; omega) (fun i _ => rfl) hf hlo hd (fun H1 locs1 hP1 hD1 hS1 => ?_)
  rw [show (0 : Int32).toNatClampNeg = 0 from rfl, hw] at hP1 hD1
  exact h H1 locs1 ls hP1 hD1 hS1 hL
/-- the same out of a constant's row of ints -/
theorem vv_copyT (C : vv_X p s m args meth c D tys A nL cc own Ts) {idx : Nat} (h1' : Cond.methodLink own idx arraycopyName ∈ Ts) (h2' : Cond.native arraycopyName ∈ Ts) (h3' : Cond.static arraycopyName ∈ Ts) (h4' : Cond.initialized "java/lang/System" ∈ Ts) {b0 n0 : Nat} {f : Nat → Int32} (hX : va_T .int b0 n0 (fun j => .int (f j)) A s s.heap) (q1 t1 : Nat) {a : Nat} {c1 : ClassId} {n1 : Nat} {g : Nat → Int32} (ha1 : w[q1]? = some (a, .inl (c1, n1, .inl g))) (ht1 : tys[t1]? = some (c1, .int)) {cnt : Int32} (N : Nat) (hc0 : ¬ cnt < 0) (hc : cnt.toNatClampNeg = N) (hn0 : N ≤ n0) (hn1 : N ≤ n1) (hf : 1 ≤ R.frames) (hlo : (st.map fun v => v.category).sum + 18 ≤ R.locals) (hd : decode cc pc = .ok (.invokestatic idx, 3)) {w' : va_W} (hw : w.set q1 (a, .inl (c1, n1, .inl (va_cpy f g 0 0 N))) = w') (h : vv_ p l e R s m args below meth c D A nL Q n k w' lv (pc + 3) st) : vv_ p l e R s m args below meth c D A nL Q n k w lv pc (.int cnt :: .int 0 :: .ref a :: .int 0 :: .ref b0 :: st) := by
  intro H locs ls hP hD hS hL T hT X
  obtain ⟨scr, hs1, hs2, hs3, hs4, -, hs5, hs7⟩ := hX
  subst hc
  have z0 : (0 : Int32).toNatClampNeg = 0 := rfl
  have zi : (0 : Int32).toInt = 0 := by decide
  have e18 : nativeFrameWords "java/lang/System" "arraycopy" 5 + 11 = 18 := by decide +kernel
  have nc : cnt.toInt = (cnt.toNatClampNeg : Int) := by
    have hz0 : (0 : Int) ≤ cnt.toInt := by
      have := Int32.not_lt.mp hc0
      simpa using Int32.le_iff_toInt_le.mp this
    show cnt.toInt = ((cnt.toInt.toNat : Nat) : Int)
    omega
  have hcs : H[b0]? = some scr := by rw [hS.2.1 b0 (Array.getElem?_eq_some_iff.mp hs1).1 hs7]; exact hs1
  have hcd : H[a]? = some (vp_cell c1 (n1, .inl g)) := hP q1 _ ha1
  obtain ⟨hs6, k0, hk0, cm0, hkk0⟩ := hs2
  obtain ⟨-, k1, hk1, cm1, hkk1⟩ := (C.2.1.2 t1 _ ht1).1 n1 (fun j => .int (g j))
  obtain ⟨vm', X', step⟩ := X.arraycopy C.1.1 C.1.2.2.2.1 (C.1.2.2.2.2 _ h1') (C.1.2.2.2.2 _ h2') (C.1.2.2.2.2 _ h3') (C.1.2.2.2.2 _ h4') (src := b0) (dst := a) (cs := scr) (cd := vp_cell c1 (n1, .inl g)) (srcPos := 0) (destPos := 0) (n := cnt) (by rw [hT]; exact hcs) (by rw [hT]; exact hcd)
    hs6 (fun _ h => by cases h) hs3 (fun h => by cases h) hk0 hk1 hkk0 hkk1 (by simp [refKind]) (by decide) (by decide) hc0
    (by rw [zi, nc]; omega)
    (by rw [zi, nc]; show ¬ _ > ((arrV c1 n1 (fun j => .int (g j))).slots.size : Int); rw [arrV_size]; omega)
    (fun vm₁ _ i hi => by
      have e : scr.slots.getD ((0 : Int32).toNatClampNeg + i) .null = .int (f ((0 : Int32).toNatClampNeg + i)) := by
        rw [Array.getD_eq_getD_getElem?, hs5 _ (by rw [z0]; omega)]
        rfl
      refine ⟨?_, ?_⟩
      · rw [e]
        rfl
      · rw [e]
        exact trivial)
    (g := F0 m pc ls (.int cnt :: .int 0 :: .ref a :: .int 0 :: .ref b0 :: st)) rfl (by rw [C.1.2.2.1]; exact hL.1) (rest := st) rfl (by rw [C.1.2.1]; exact hd) hf (by show 2 * 0 + _ + _ ≤ _; rw [e18]; omega)
  have e1 : copied scr (vp_cell c1 (n1, .inl g)) 0 0 cnt = vp_cell c1 (n1, .inl (va_cpy f g (0 : Int32).toNatClampNeg (0 : Int32).toNatClampNeg cnt.toNatClampNeg)) := va_copiedX (fun z => .int z) scr c1 f g hs5 (by rw [z0]; omega)
  rw [e1, z0] at X' step
  have hl : a < H.size := (Array.getElem?_eq_some_iff.mp hcd).1
  have hheap : ((T.setVm vm').setCell a (vp_cell c1 (n1, .inl (va_cpy f g 0 0 cnt.toNatClampNeg)))).heap = H.setIfInBounds a (vp_cell c1 (n1, .inl (va_cpy f g 0 0 cnt.toNatClampNeg))) := by rw [← hT]; rfl
  have oq : ∀ q : Nat, q ≠ a → (H.setIfInBounds a (vp_cell c1 (n1, .inl (va_cpy f g 0 0 cnt.toNatClampNeg))))[q]? = H[q]? := fun q hq => by simp [Array.getElem?_setIfInBounds, Ne.symm hq]
  have hP1 := hP.set hD ha1 (e := .inl (c1, n1, .inl (va_cpy f g 0 0 cnt.toNatClampNeg))) (show (H.setIfInBounds a _)[a]? = some _ by simp [Array.getElem?_setIfInBounds, hl]) oq
  have hD1 := hD.set (e := .inl (c1, n1, .inl (va_cpy f g 0 0 cnt.toNatClampNeg))) ha1
  rw [hw] at hP1 hD1
  obtain ⟨t, a1, b1⟩ := h _ _ ls hP1 hD1 ⟨by simp; exact hS.1, fun q g1 g2 => by
      rw [oq q (fun e => g2 (by rw [e]; exact hD.2 q1 _ ha1))]
      exact hS.2.1 q g1 g2, fun q hq => by
      rcases List.mem_append.mp hq with h | h
      · exact hS.2.2 q h
      · obtain ⟨z, -, hz⟩ := List.mem_map.mp h
        rw [← hz]
        exact hD.2 q1 _ ha1⟩ hL _ hheap X'
  exact ⟨t, step t a1, b1⟩
/-- a call on the text -/
theorem vv_callKi {α β : Type} {F : Option α} {K : α → Option β} {res : β} (ans : α → Int32) (wof : α → va_W) (C : vv_X p s m args meth c D tys A nL cc own Ts) {b v : Nat} (h0 : eQ b v A s) {idx : Nat} {y : MethodName} {bytes : ByteArray} {maxL : Nat} {ret : Option FieldType} {ws ws' : List Cond} {rm : Room} (As rest : List Value) (na : Nat) (hF : bn_ F K = some res)
    (hM : ∀ x, F = some x → ct_I l D tys (eQ b v) y ws rm (.ref b :: As) w (ans x) (wof x)) (hg : GoodIn Ts (wsV own idx "java/lang/String" y ws)) (hw : ws = Cond.code y bytes maxL ret :: ws') (hrc : rm.cells = 0) (hrs : rm.slots = 0) (hy : y.cls = "java/lang/String" ∧ y.cls ≠ "java/lang/invoke/MethodHandle" ∧ y.cls ≠ "java/lang/invoke/VarHandle" ∧ (parseMethodDescriptor y.desc).map (fun d => d.parameters.length) = some na) (hR : rm.frames + 1 ≤ R.frames ∧ 8 + (maxL + 11) + rm.locals ≤ R.locals)
    (hna : As.length = na) (hst : st = As.reverse ++ .ref b :: rest) (hrm : (rest.map fun v => v.category).sum ≤ 8) (hd : decode cc pc = .ok (.invokevirtual idx, 3)) (hnk : n ≤ R.cells ∧ k ≤ R.slots)
    (h : ∀ x, F = some x → K x = some res → vv_ p l e R s m args below meth c D A nL Q n k (wof x) lv (pc + 3) (.int (ans x) :: rest)) : vv_ p l e R s m args below meth c D A nL Q n k w lv pc st := by
  intro H locs ls hP hD hS hL
  obtain ⟨x, hx, hK⟩ := bn_some hF
  subst hst
  have hFc := ct_free C hD hS
  have hE := eQ_ok b v
  refine va_calli (va_runV (As := As) (rest := rest) C.1 (hM x hx H.size) (cwV na C.1.2.2.2.2 hg hw hrc hrs hy hR) ⟨ct_blind (As := .ref b :: As) hE, vk_recv (i := 0) h0.2 (by decide) hS, fun U hU hW => ⟨rfl, ct_pre C hE h0 hP hD hS hU hW⟩⟩ rfl hna hL.1 rfl (lv_room hrm) hd hnk) hS (fun q _ h => hFc q h) hFc (fun r u t H1 locs1 ht hvm hp hB hz hk1 hS1 => ?_)
  subst hp
  exact h x hx hK H1 locs1 ls (by rw [← ht]; exact hB.1) (hB.2.weaken (fun _ q _ h9 => hFc q.1 h9)) hS1 hL
end VVD
end
section
/-! X5_isBelow -/
abbrev rmX5_isBelow : Room := { frames := 0, cells := 0, slots := 0, locals := 0 }
def fX5_isBelow (x0 : Int32) (x1 : Int32) : Option Int32 := (if x0 < 0 then some 0 else (if x1 ≤ x0 then some 0 else some 1))
set_option maxHeartbeats 4000000 in
set_option maxRecDepth 20000 in
theorem kX5_isBelow (l : Launch) (D : va_G) (tys : List (ClassId × FieldType)) {E : (Nat → Prop) → State → Prop} (hE : ct_E E) (w : va_W) (x0 : Int32) (x1 : Int32) (res : Int32)  (hF : fX5_isBelow x0 x1 = some res) : ct_I l D tys E yX5_isBelow wsX5_isBelow rmX5_isBelow [.int x0, .int x1] w res w := by
  refine mt_I (by decide) rfl (Nat.le_of_ble_eq_true rfl) ?_
  intro p e s m args below meth c A Q C h0 hr
  replace C : vv_X p s m args meth c D tys A 2 cX5_isBelow RX5 wsX5_isBelow := C
  replace hF : (if x0 < 0 then some 0 else (if x1 ≤ x0 then some 0 else some 1)) = some res := hF
  refine vv_lv [0, 1] (lv' := [(0, .int x0), (1, .int x1)]) rfl ?_
  refine vv_iload_n C dX5_isBelow_0 0 rfl ?_
  refine vv_if_lt (tgt := 13) C dX5_isBelow_1 (by decide) hF (fun c2 hF => ?_) (fun c2 hF => ?_)
  · refine vv_iconst (v := 0) C dX5_isBelow_13 (by decide) ?_
    cases hF
    exact hr _ _ dX5_isBelow_14 (by decide +kernel)
  · refine vv_iload_n C dX5_isBelow_4 0 rfl ?_
    refine vv_iload_n C dX5_isBelow_5 1 rfl ?_
    refine vv_icmp_ge (tgt := 13) C dX5_isBelow_6 (by decide) hF (fun c1 hF => ?_) (fun c1 hF => ?_)
    · refine vv_iconst (v := 0) C dX5_isBelow_13 (by decide) ?_
      cases hF
      exact hr _ _ dX5_isBelow_14 (by decide +kernel)
    · refine vv_iconst (v := 1) C dX5_isBelow_9 (by decide) ?_
      refine vv_goto (tgt := 14) C dX5_isBelow_10 (by decide) ?_
      cases hF
      exact hr _ _ dX5_isBelow_14 (by decide +kernel)
/-! X5_hasBit -/
abbrev rmX5_hasBit : Room := { frames := 0, cells := 0, slots := 0, locals := 0 }
def fX5_hasBit (x0 : Int32) (x1 : Int32) : Option Int32 := (if ((x0 >>> (x1 &&& 31)) &&& 1) = 0 then some 0 else some 1)
set_option maxHeartbeats 4000000 in
set_option maxRecDepth 20000 in
theorem kX5_hasBit (l : Launch) (D : va_G) (tys : List (ClassId × FieldType)) {E : (Nat → Prop) → State → Prop} (hE : ct_E E) (w : va_W) (x0 : Int32) (x1 : Int32) (res : Int32)  (hF : fX5_hasBit x0 x1 = some res) : ct_I l D tys E yX5_hasBit wsX5_hasBit rmX5_hasBit [.int x0, .int x1] w res w := by
  refine mt_I (by decide) rfl (Nat.le_of_ble_eq_true rfl) ?_
  intro p e s m args below meth c A Q C h0 hr
  replace C : vv_X p s m args meth c D tys A 2 cX5_hasBit RX5 wsX5_hasBit := C
  replace hF : (if ((x0 >>> (x1 &&& 31)) &&& 1) = 0 then some 0 else some 1) = some res := hF
  refine vv_lv [0, 1] (lv' := [(0, .int x0), (1, .int x1)]) rfl ?_
  refine vv_iload_n C dX5_hasBit_0 0 rfl ?_
  refine vv_iload_n C dX5_hasBit_1 1 rfl ?_
  refine vv_ishr C dX5_hasBit_2 ?_
  refine vv_iconst (v := 1) C dX5_hasBit_3 (by decide) ?_
  refine vv_iand C dX5_hasBit_4 ?_
  refine vv_if_eq (tgt := 12) C dX5_hasBit_5 (by decide) hF (fun c1 hF => ?_) (fun c1 hF => ?_)
  · refine vv_iconst (v := 0) C dX5_hasBit_12 (by decide) ?_
    cases hF
    exact hr _ _ dX5_hasBit_13 (by decide +kernel)
  · refine vv_iconst (v := 1) C dX5_hasBit_8 (by decide) ?_
    refine vv_goto (tgt := 13) C dX5_hasBit_9 (by decide) ?_
    cases hF
    exact hr _ _ dX5_hasBit_13 (by decide +kernel)
/-! X5_oneIf -/
abbrev rmX5_oneIf : Room := { frames := 0, cells := 0, slots := 0, locals := 0 }
def fX5_oneIf (x0 : Int32) : Option Int32 := (if x0 = 0 then some 0 else some 1)
set_option maxHeartbeats 4000000 in
set_option maxRecDepth 20000 in
theorem kX5_oneIf (l : Launch) (D : va_G) (tys : List (ClassId × FieldType)) {E : (Nat → Prop) → State → Prop} (hE : ct_E E) (w : va_W) (x0 : Int32) (res : Int32)  (hF : fX5_oneIf x0 = some res) : ct_I l D tys E yX5_oneIf wsX5_oneIf rmX5_oneIf [.int x0] w res w := by
  refine mt_I (by decide) rfl (Nat.le_of_ble_eq_true rfl) ?_
  intro p e s m args below meth c A Q C h0 hr
  replace C : vv_X p s m args meth c D tys A 1 cX5_oneIf RX5 wsX5_oneIf := C
  replace hF : (if x0 = 0 then some 0 else some 1) = some res := hF
  refine vv_lv [0] (lv' := [(0, .int x0)]) rfl ?_
  refine vv_iload_n C dX5_oneIf_0 0 rfl ?_
  refine vv_if_eq (tgt := 8) C dX5_oneIf_1 (by decide) hF (fun c1 hF => ?_) (fun c1 hF => ?_)
  · refine vv_iconst (v := 0) C dX5_oneIf_8 (by decide) ?_
    cases hF
    exact hr _ _ dX5_oneIf_9 rfl
  · refine vv_iconst (v := 1) C dX5_oneIf_4 (by decide) ?_
    refine vv_goto (tgt := 9) C dX5_oneIf_5 (by decide) ?_
    cases hF
    exact hr _ _ dX5_oneIf_9 rfl
/-! J6_bitCount_0f7a4 -/
abbrev rmJ6_bitCount_0f7a4 : Room := { frames := 0, cells := 0, slots := 0, locals := 0 }
def fJ6_bitCount_0f7a4 (x0 : Int32) : Option Int32 := some ((((((((x0 - ((ushr_ x0 1) &&& 1431655765)) &&& 858993459) + ((ushr_ (x0 - ((ushr_ x0 1) &&& 1431655765)) 2) &&& 858993459)) + (ushr_ (((x0 - ((ushr_ x0 1) &&& 1431655765)) &&& 858993459) + ((ushr_ (x0 - ((ushr_ x0 1) &&& 1431655765)) 2) &&& 858993459)) 4)) &&& 252645135) + (ushr_ (((((x0 - ((ushr_ x0 1) &&& 1431655765)) &&& 858993459) + ((ushr_ (x0 - ((ushr_ x0 1) &&& 1431655765)) 2) &&& 858993459)) + (ushr_ (((x0 - ((ushr_ x0 1) &&& 1431655765)) &&& 858993459) + ((ushr_ (x0 - ((ushr_ x0 1) &&& 1431655765)) 2) &&& 858993459)) 4)) &&& 252645135) 8)) + (ushr_ ((((((x0 - ((ushr_ x0 1) &&& 1431655765)) &&& 858993459) + ((ushr_ (x0 - ((ushr_ x0 1) &&& 1431655765)) 2) &&& 858993459)) + (ushr_ (((x0 - ((ushr_ x0 1) &&& 1431655765)) &&& 858993459) + ((ushr_ (x0 - ((ushr_ x0 1) &&& 1431655765)) 2) &&& 858993459)) 4)) &&& 252645135) + (ushr_ (((((x0 - ((ushr_ x0 1) &&& 1431655765)) &&& 858993459) + ((ushr_ (x0 - ((ushr_ x0 1) &&& 1431655765)) 2) &&& 858993459)) + (ushr_ (((x0 - ((ushr_ x0 1) &&& 1431655765)) &&& 858993459) + ((ushr_ (x0 - ((ushr_ x0 1) &&& 1431655765)) 2) &&& 858993459)) 4)) &&& 252645135) 8)) 16)) &&& 63)
set_option maxHeartbeats 4000000 in
set_option maxRecDepth 20000 in
theorem kJ6_bitCount_0f7a4 (l : Launch) (D : va_G) (tys : List (ClassId × FieldType)) {E : (Nat → Prop) → State → Prop} (hE : ct_E E) (w : va_W) (x0 : Int32) (res : Int32)  (hF : fJ6_bitCount_0f7a4 x0 = some res) : ct_I l D tys E yJ6_bitCount_0f7a4 wsJ6_bitCount_0f7a4 rmJ6_bitCount_0f7a4 [.int x0] w res w := by
  refine mt_I (by decide) rfl (Nat.le_of_ble_eq_true rfl) ?_
  intro p e s m args below meth c A Q C h0 hr
  replace C : vv_X p s m args meth c D tys A 1 cJ6_bitCount_0f7a4 RJ6 wsJ6_bitCount_0f7a4 := C
  replace hF : some ((((((((x0 - ((ushr_ x0 1) &&& 1431655765)) &&& 858993459) + ((ushr_ (x0 - ((ushr_ x0 1) &&& 1431655765)) 2) &&& 858993459)) + (ushr_ (((x0 - ((ushr_ x0 1) &&& 1431655765)) &&& 858993459) + ((ushr_ (x0 - ((ushr_ x0 1) &&& 1431655765)) 2) &&& 858993459)) 4)) &&& 252645135) + (ushr_ (((((x0 - ((ushr_ x0 1) &&& 1431655765)) &&& 858993459) + ((ushr_ (x0 - ((ushr_ x0 1) &&& 1431655765)) 2) &&& 858993459)) + (ushr_ (((x0 - ((ushr_ x0 1) &&& 1431655765)) &&& 858993459) + ((ushr_ (x0 - ((ushr_ x0 1) &&& 1431655765)) 2) &&& 858993459)) 4)) &&& 252645135) 8)) + (ushr_ ((((((x0 - ((ushr_ x0 1) &&& 1431655765)) &&& 858993459) + ((ushr_ (x0 - ((ushr_ x0 1) &&& 1431655765)) 2) &&& 858993459)) + (ushr_ (((x0 - ((ushr_ x0 1) &&& 1431655765)) &&& 858993459) + ((ushr_ (x0 - ((ushr_ x0 1) &&& 1431655765)) 2) &&& 858993459)) 4)) &&& 252645135) + (ushr_ (((((x0 - ((ushr_ x0 1) &&& 1431655765)) &&& 858993459) + ((ushr_ (x0 - ((ushr_ x0 1) &&& 1431655765)) 2) &&& 858993459)) + (ushr_ (((x0 - ((ushr_ x0 1) &&& 1431655765)) &&& 858993459) + ((ushr_ (x0 - ((ushr_ x0 1) &&& 1431655765)) 2) &&& 858993459)) 4)) &&& 252645135) 8)) 16)) &&& 63) = some res := hF
  refine vv_lv [0] (lv' := [(0, .int x0)]) rfl ?_
  refine vv_iload_n C dJ6_bitCount_0f7a4_0 0 rfl ?_
  refine vv_iload_n C dJ6_bitCount_0f7a4_1 0 rfl ?_
  refine vv_iconst (v := 1) C dJ6_bitCount_0f7a4_2 (by decide) ?_
  refine vv_iushr C dJ6_bitCount_0f7a4_3 ?_
  refine vv_ldcw (v := 1431655765) C (List.mem_of_getElem? (i := 1) rfl) dJ6_bitCount_0f7a4_4 ?_
  refine vv_iand C dJ6_bitCount_0f7a4_7 ?_
  refine vv_isub C dJ6_bitCount_0f7a4_8 ?_
  refine vv_istore_n (lv' := [(0, .int (x0 - ((ushr_ x0 1) &&& 1431655765)))]) C dJ6_bitCount_0f7a4_9 (by decide) rfl ?_
  refine vv_iload_n C dJ6_bitCount_0f7a4_10 0 rfl ?_
  refine vv_ldcw (v := 858993459) C (List.mem_of_getElem? (i := 2) rfl) dJ6_bitCount_0f7a4_11 ?_
  refine vv_iand C dJ6_bitCount_0f7a4_14 ?_
  refine vv_iload_n C dJ6_bitCount_0f7a4_15 0 rfl ?_
  refine vv_iconst (v := 2) C dJ6_bitCount_0f7a4_16 (by decide) ?_
  refine vv_iushr C dJ6_bitCount_0f7a4_17 ?_
  refine vv_ldcw (v := 858993459) C (List.mem_of_getElem? (i := 2) rfl) dJ6_bitCount_0f7a4_18 ?_
  refine vv_iand C dJ6_bitCount_0f7a4_21 ?_
  refine vv_iadd C dJ6_bitCount_0f7a4_22 ?_
  refine vv_istore_n (lv' := [(0, .int (((x0 - ((ushr_ x0 1) &&& 1431655765)) &&& 858993459) + ((ushr_ (x0 - ((ushr_ x0 1) &&& 1431655765)) 2) &&& 858993459)))]) C dJ6_bitCount_0f7a4_23 (by decide) rfl ?_
  refine vv_iload_n C dJ6_bitCount_0f7a4_24 0 rfl ?_
  refine vv_iload_n C dJ6_bitCount_0f7a4_25 0 rfl ?_
  refine vv_iconst (v := 4) C dJ6_bitCount_0f7a4_26 (by decide) ?_
  refine vv_iushr C dJ6_bitCount_0f7a4_27 ?_
  refine vv_iadd C dJ6_bitCount_0f7a4_28 ?_
  refine vv_ldcw (v := 252645135) C (List.mem_of_getElem? (i := 3) rfl) dJ6_bitCount_0f7a4_29 ?_
  refine vv_iand C dJ6_bitCount_0f7a4_32 ?_
  refine vv_istore_n (lv' := [(0, .int (((((x0 - ((ushr_ x0 1) &&& 1431655765)) &&& 858993459) + ((ushr_ (x0 - ((ushr_ x0 1) &&& 1431655765)) 2) &&& 858993459)) + (ushr_ (((x0 - ((ushr_ x0 1) &&& 1431655765)) &&& 858993459) + ((ushr_ (x0 - ((ushr_ x0 1) &&& 1431655765)) 2) &&& 858993459)) 4)) &&& 252645135))]) C dJ6_bitCount_0f7a4_33 (by decide) rfl ?_
  refine vv_iload_n C dJ6_bitCount_0f7a4_34 0 rfl ?_
  refine vv_iload_n C dJ6_bitCount_0f7a4_35 0 rfl ?_
  refine vv_bipush (v := 8) C dJ6_bitCount_0f7a4_36 (by decide) ?_
  refine vv_iushr C dJ6_bitCount_0f7a4_38 ?_
  refine vv_iadd C dJ6_bitCount_0f7a4_39 ?_
  refine vv_istore_n (lv' := [(0, .int ((((((x0 - ((ushr_ x0 1) &&& 1431655765)) &&& 858993459) + ((ushr_ (x0 - ((ushr_ x0 1) &&& 1431655765)) 2) &&& 858993459)) + (ushr_ (((x0 - ((ushr_ x0 1) &&& 1431655765)) &&& 858993459) + ((ushr_ (x0 - ((ushr_ x0 1) &&& 1431655765)) 2) &&& 858993459)) 4)) &&& 252645135) + (ushr_ (((((x0 - ((ushr_ x0 1) &&& 1431655765)) &&& 858993459) + ((ushr_ (x0 - ((ushr_ x0 1) &&& 1431655765)) 2) &&& 858993459)) + (ushr_ (((x0 - ((ushr_ x0 1) &&& 1431655765)) &&& 858993459) + ((ushr_ (x0 - ((ushr_ x0 1) &&& 1431655765)) 2) &&& 858993459)) 4)) &&& 252645135) 8)))]) C dJ6_bitCount_0f7a4_40 (by decide) rfl ?_
  refine vv_iload_n C dJ6_bitCount_0f7a4_41 0 rfl ?_
  refine vv_iload_n C dJ6_bitCount_0f7a4_42 0 rfl ?_
  refine vv_bipush (v := 16) C dJ6_bitCount_0f7a4_43 (by decide) ?_
  refine vv_iushr C dJ6_bitCount_0f7a4_45 ?_
  refine vv_iadd C dJ6_bitCount_0f7a4_46 ?_
  refine vv_istore_n (lv' := [(0, .int (((((((x0 - ((ushr_ x0 1) &&& 1431655765)) &&& 858993459) + ((ushr_ (x0 - ((ushr_ x0 1) &&& 1431655765)) 2) &&& 858993459)) + (ushr_ (((x0 - ((ushr_ x0 1) &&& 1431655765)) &&& 858993459) + ((ushr_ (x0 - ((ushr_ x0 1) &&& 1431655765)) 2) &&& 858993459)) 4)) &&& 252645135) + (ushr_ (((((x0 - ((ushr_ x0 1) &&& 1431655765)) &&& 858993459) + ((ushr_ (x0 - ((ushr_ x0 1) &&& 1431655765)) 2) &&& 858993459)) + (ushr_ (((x0 - ((ushr_ x0 1) &&& 1431655765)) &&& 858993459) + ((ushr_ (x0 - ((ushr_ x0 1) &&& 1431655765)) 2) &&& 858993459)) 4)) &&& 252645135) 8)) + (ushr_ ((((((x0 - ((ushr_ x0 1) &&& 1431655765)) &&& 858993459) + ((ushr_ (x0 - ((ushr_ x0 1) &&& 1431655765)) 2) &&& 858993459)) + (ushr_ (((x0 - ((ushr_ x0 1) &&& 1431655765)) &&& 858993459) + ((ushr_ (x0 - ((ushr_ x0 1) &&& 1431655765)) 2) &&& 858993459)) 4)) &&& 252645135) + (ushr_ (((((x0 - ((ushr_ x0 1) &&& 1431655765)) &&& 858993459) + ((ushr_ (x0 - ((ushr_ x0 1) &&& 1431655765)) 2) &&& 858993459)) + (ushr_ (((x0 - ((ushr_ x0 1) &&& 1431655765)) &&& 858993459) + ((ushr_ (x0 - ((ushr_ x0 1) &&& 1431655765)) 2) &&& 858993459)) 4)) &&& 252645135) 8)) 16)))]) C dJ6_bitCount_0f7a4_47 (by decide) rfl ?_
  refine vv_iload_n C dJ6_bitCount_0f7a4_48 0 rfl ?_
  refine vv_bipush (v := 63) C dJ6_bitCount_0f7a4_49 (by decide) ?_
  refine vv_iand C dJ6_bitCount_0f7a4_51 ?_
  cases hF
  exact hr _ _ dJ6_bitCount_0f7a4_52 rfl
/-! X1_placeVisited -/
abbrev rmX1_placeVisited : Room := { frames := 0, cells := 0, slots := 0, locals := 0 }
def fX1_placeVisited (x0 : Int32) : Option Int32 := some (10 + x0)
set_option maxHeartbeats 4000000 in
set_option maxRecDepth 20000 in
theorem kX1_placeVisited (l : Launch) (D : va_G) (tys : List (ClassId × FieldType)) {E : (Nat → Prop) → State → Prop} (hE : ct_E E) (w : va_W) (x0 : Int32) (res : Int32)  (hF : fX1_placeVisited x0 = some res) : ct_I l D tys E yX1_placeVisited wsX1_placeVisited rmX1_placeVisited [.int x0] w res w := by
  refine mt_I (by decide) rfl (Nat.le_of_ble_eq_true rfl) ?_
  intro p e s m args below meth c A Q C h0 hr
  replace C : vv_X p s m args meth c D tys A 1 cX1_placeVisited RX1 wsX1_placeVisited := C
  replace hF : some (10 + x0) = some res := hF
  refine vv_lv [0] (lv' := [(0, .int x0)]) rfl ?_
  refine vv_bipush (v := 10) C dX1_placeVisited_0 (by decide) ?_
  refine vv_iload_n C dX1_placeVisited_2 0 rfl ?_
  refine vv_iadd C dX1_placeVisited_3 ?_
  cases hF
  exact hr _ _ dX1_placeVisited_4 rfl
/-! X1_lowestBit -/
abbrev rmX1_lowestBit : Room := { frames := 1, cells := 0, slots := 0, locals := 20 }
def fX1_lowestBit (x0 : Int32) : Option Int32 := (bn_ (fJ6_bitCount_0f7a4 ((x0 &&& (-x0)) - 1)) fun r1 => some r1)
set_option maxHeartbeats 4000000 in
set_option maxRecDepth 20000 in
theorem kX1_lowestBit (l : Launch) (D : va_G) (tys : List (ClassId × FieldType)) {E : (Nat → Prop) → State → Prop} (hE : ct_E E) (w : va_W) (x0 : Int32) (res : Int32)  (hF : fX1_lowestBit x0 = some res) : ct_I l D tys E yX1_lowestBit wsX1_lowestBit rmX1_lowestBit [.int x0] w res w := by
  refine mt_I (by decide) rfl (Nat.le_of_ble_eq_true rfl) ?_
  intro p e s m args below meth c A Q C h0 hr
  replace C : vv_X p s m args meth c D tys A 1 cX1_lowestBit RX1 wsX1_lowestBit := C
  replace hF : (bn_ (fJ6_bitCount_0f7a4 ((x0 &&& (-x0)) - 1)) fun r1 => some r1) = some res := hF
  refine vv_lv [0] (lv' := [(0, .int x0)]) rfl ?_
  refine vv_iload_n C dX1_lowestBit_0 0 rfl ?_
  refine vv_iload_n C dX1_lowestBit_1 0 rfl ?_
  refine vv_ineg C dX1_lowestBit_2 ?_
  refine vv_iand C dX1_lowestBit_3 ?_
  refine vv_iconst (v := 1) C dX1_lowestBit_4 (by decide) ?_
  refine vv_isub C dX1_lowestBit_5 ?_
  refine vv_callSi (fun r1 => r1) (fun r1 => w) C hE h0 [.int ((x0 &&& (-x0)) - 1)] [] 1 hF (fun r1 hr1 => kJ6_bitCount_0f7a4 l D tys hE w ((x0 &&& (-x0)) - 1) r1  hr1) gX1_lowestBit_J6_bitCount_0f7a4 rfl rfl rfl (by decide +kernel) ⟨by decide, by decide⟩ rfl rfl (Nat.le_of_ble_eq_true rfl) dX1_lowestBit_6 ⟨by decide, by decide⟩ (fun r1 hqr1 hF => ?_)
  cases hF
  exact hr _ _ dX1_lowestBit_9 rfl
/-! X2_faultAt -/
abbrev rmX2_faultAt : Room := { frames := 0, cells := 0, slots := 0, locals := 0 }
def fX2_faultAt (x0 : Int32) (x1 : Int32) : Option Int32 := some ((100 * x0) + x1)
set_option maxHeartbeats 4000000 in
set_option maxRecDepth 20000 in
theorem kX2_faultAt (l : Launch) (D : va_G) (tys : List (ClassId × FieldType)) {E : (Nat → Prop) → State → Prop} (hE : ct_E E) (w : va_W) (x0 : Int32) (x1 : Int32) (res : Int32)  (hF : fX2_faultAt x0 x1 = some res) : ct_I l D tys E yX2_faultAt wsX2_faultAt rmX2_faultAt [.int x0, .int x1] w res w := by
  refine mt_I (by decide) rfl (Nat.le_of_ble_eq_true rfl) ?_
  intro p e s m args below meth c A Q C h0 hr
  replace C : vv_X p s m args meth c D tys A 2 cX2_faultAt RX2 wsX2_faultAt := C
  replace hF : some ((100 * x0) + x1) = some res := hF
  refine vv_lv [0, 1] (lv' := [(0, .int x0), (1, .int x1)]) rfl ?_
  refine vv_bipush (v := 100) C dX2_faultAt_0 (by decide) ?_
  refine vv_iload_n C dX2_faultAt_2 0 rfl ?_
  refine vv_imul C dX2_faultAt_3 ?_
  refine vv_iload_n C dX2_faultAt_4 1 rfl ?_
  refine vv_iadd C dX2_faultAt_5 ?_
  cases hF
  exact hr _ _ dX2_faultAt_6 rfl
/-! X6_lies -/
abbrev rmX6_lies : Room := { frames := 0, cells := 0, slots := 0, locals := 0 }
def fX6_lies (x0 : Int32) (x1 : Int32) (x2 : Int32) : Option Int32 := (if x0 < x1 then some 0 else (if x2 < x0 then some 0 else some 1))
set_option maxHeartbeats 4000000 in
set_option maxRecDepth 20000 in
theorem kX6_lies (l : Launch) (D : va_G) (tys : List (ClassId × FieldType)) {E : (Nat → Prop) → State → Prop} (hE : ct_E E) (w : va_W) (x0 : Int32) (x1 : Int32) (x2 : Int32) (res : Int32)  (hF : fX6_lies x0 x1 x2 = some res) : ct_I l D tys E yX6_lies wsX6_lies rmX6_lies [.int x0, .int x1, .int x2] w res w := by
  refine mt_I (by decide) rfl (Nat.le_of_ble_eq_true rfl) ?_
  intro p e s m args below meth c A Q C h0 hr
  replace C : vv_X p s m args meth c D tys A 3 cX6_lies RX6 wsX6_lies := C
  replace hF : (if x0 < x1 then some 0 else (if x2 < x0 then some 0 else some 1)) = some res := hF
  refine vv_lv [0, 1, 2] (lv' := [(0, .int x0), (1, .int x1), (2, .int x2)]) rfl ?_
  refine vv_iload_n C dX6_lies_0 0 rfl ?_
  refine vv_iload_n C dX6_lies_1 1 rfl ?_
  refine vv_icmp_lt (tgt := 14) C dX6_lies_2 (by decide) hF (fun c2 hF => ?_) (fun c2 hF => ?_)
  · refine vv_iconst (v := 0) C dX6_lies_14 (by decide) ?_
    cases hF
    exact hr _ _ dX6_lies_15 (by decide +kernel)
  · refine vv_iload_n C dX6_lies_5 0 rfl ?_
    refine vv_iload_n C dX6_lies_6 2 rfl ?_
    refine vv_icmp_gt (tgt := 14) C dX6_lies_7 (by decide) hF (fun c1 hF => ?_) (fun c1 hF => ?_)
    · refine vv_iconst (v := 0) C dX6_lies_14 (by decide) ?_
      cases hF
      exact hr _ _ dX6_lies_15 (by decide +kernel)
    · refine vv_iconst (v := 1) C dX6_lies_10 (by decide) ?_
      refine vv_goto (tgt := 15) C dX6_lies_11 (by decide) ?_
      cases hF
      exact hr _ _ dX6_lies_15 (by decide +kernel)
/-! X6_letter -/
abbrev rmX6_letter : Room := { frames := 0, cells := 0, slots := 0, locals := 0 }
def fX6_letter (x0 : Int32) : Option Int32 := (if x0 = 98 then some 4 else if x0 = 103 then some 5 else if x0 = 110 then some 0 else if x0 = 118 then some 1 else if x0 = 119 then some 2 else if x0 = 120 then some 3 else some (-1))
set_option maxHeartbeats 4000000 in
set_option maxRecDepth 20000 in
theorem kX6_letter (l : Launch) (D : va_G) (tys : List (ClassId × FieldType)) {E : (Nat → Prop) → State → Prop} (hE : ct_E E) (w : va_W) (x0 : Int32) (res : Int32)  (hF : fX6_letter x0 = some res) : ct_I l D tys E yX6_letter wsX6_letter rmX6_letter [.int x0] w res w := by
  refine mt_I (by decide) rfl (Nat.le_of_ble_eq_true rfl) ?_
  intro p e s m args below meth c A Q C h0 hr
  replace C : vv_X p s m args meth c D tys A 1 cX6_letter RX6 wsX6_letter := C
  replace hF : (if x0 = 98 then some 4 else if x0 = 103 then some 5 else if x0 = 110 then some 0 else if x0 = 118 then some 1 else if x0 = 119 then some 2 else if x0 = 120 then some 3 else some (-1)) = some res := hF
  refine vv_lv [0] (lv' := [(0, .int x0)]) rfl ?_
  refine vv_iload_n C dX6_letter_0 0 rfl ?_
  by_cases s1 : x0 = 98
  · rw [if_pos s1] at hF
    refine vv_lookup (tgt := 68) (off := 67) C dX6_letter_1 (by decide +kernel) (by rw [s1]; decide +kernel) (by decide) ?_
    refine vv_iconst (v := 4) C dX6_letter_68 (by decide) ?_
    cases hF
    exact hr _ _ dX6_letter_69 rfl
  rw [if_neg s1] at hF
  by_cases s2 : x0 = 103
  · rw [if_pos s2] at hF
    refine vv_lookup (tgt := 70) (off := 69) C dX6_letter_1 (by decide +kernel) (by rw [s2]; decide +kernel) (by decide) ?_
    refine vv_iconst (v := 5) C dX6_letter_70 (by decide) ?_
    cases hF
    exact hr _ _ dX6_letter_71 rfl
  rw [if_neg s2] at hF
  by_cases s3 : x0 = 110
  · rw [if_pos s3] at hF
    refine vv_lookup (tgt := 60) (off := 59) C dX6_letter_1 (by decide +kernel) (by rw [s3]; decide +kernel) (by decide) ?_
    refine vv_iconst (v := 0) C dX6_letter_60 (by decide) ?_
    cases hF
    exact hr _ _ dX6_letter_61 rfl
  rw [if_neg s3] at hF
  by_cases s4 : x0 = 118
  · rw [if_pos s4] at hF
    refine vv_lookup (tgt := 62) (off := 61) C dX6_letter_1 (by decide +kernel) (by rw [s4]; decide +kernel) (by decide) ?_
    refine vv_iconst (v := 1) C dX6_letter_62 (by decide) ?_
    cases hF
    exact hr _ _ dX6_letter_63 rfl
  rw [if_neg s4] at hF
  by_cases s5 : x0 = 119
  · rw [if_pos s5] at hF
    refine vv_lookup (tgt := 64) (off := 63) C dX6_letter_1 (by decide +kernel) (by rw [s5]; decide +kernel) (by decide) ?_
    refine vv_iconst (v := 2) C dX6_letter_64 (by decide) ?_
    cases hF
    exact hr _ _ dX6_letter_65 rfl
  rw [if_neg s5] at hF
  by_cases s6 : x0 = 120
  · rw [if_pos s6] at hF
    refine vv_lookup (tgt := 66) (off := 65) C dX6_letter_1 (by decide +kernel) (by rw [s6]; decide +kernel) (by decide) ?_
    refine vv_iconst (v := 3) C dX6_letter_66 (by decide) ?_
    cases hF
    exact hr _ _ dX6_letter_67 rfl
  rw [if_neg s6] at hF
  refine vv_lookup (tgt := 72) (off := 71) C dX6_letter_1 (by decide +kernel) (by show Op.lookupswitch.offset [(98, 67), (103, 69), (110, 59), (118, 61), (119, 63), (120, 65)] _ _ = _; rw [lv_osw s1 (a := 98) (by decide +kernel), lv_osw s2 (a := 103) (by decide +kernel), lv_osw s3 (a := 110) (by decide +kernel), lv_osw s4 (a := 118) (by decide +kernel), lv_osw s5 (a := 119) (by decide +kernel), lv_osw s6 (a := 120) (by decide +kernel)]; rfl) (by decide) ?_
  refine vv_iconst (v := (-1)) C dX6_letter_72 (by decide) ?_
  cases hF
  exact hr _ _ dX6_letter_73 rfl
/-! X6_canBe -/
abbrev rmX6_canBe : Room := { frames := 1, cells := 0, slots := 0, locals := 22 }
def fX6_canBe (x0 : Int32) (x1 : Int32) : Option Int32 := (if x0 = 0 then (bn_ (fX6_lies x1 1 5) fun r1 => (gz_ r1 (some r1))) else if x0 = 1 then (if 9 < x1 then some 0 else some 1) else if x0 = 2 then (if x1 < 1 then some 0 else some 1) else if x0 = 3 then (if x1 < 1 then some 0 else some 1) else if x0 = 4 then (bn_ (fX6_lies x1 1 20) fun r9 => (gz_ r9 (some r9))) else if x0 = 5 then (if 100 < x1 then some 0 else some 1) else (if x1 < 1 then some 0 else some 1))
set_option maxHeartbeats 4000000 in
set_option maxRecDepth 20000 in
theorem kX6_canBe (l : Launch) (D : va_G) (tys : List (ClassId × FieldType)) {E : (Nat → Prop) → State → Prop} (hE : ct_E E) (w : va_W) (x0 : Int32) (x1 : Int32) (res : Int32)  (hF : fX6_canBe x0 x1 = some res) : ct_I l D tys E yX6_canBe wsX6_canBe rmX6_canBe [.int x0, .int x1] w res w := by
  refine mt_I (by decide) rfl (Nat.le_of_ble_eq_true rfl) ?_
  intro p e s m args below meth c A Q C h0 hr
  replace C : vv_X p s m args meth c D tys A 2 cX6_canBe RX6 wsX6_canBe := C
  replace hF : (if x0 = 0 then (bn_ (fX6_lies x1 1 5) fun r1 => (gz_ r1 (some r1))) else if x0 = 1 then (if 9 < x1 then some 0 else some 1) else if x0 = 2 then (if x1 < 1 then some 0 else some 1) else if x0 = 3 then (if x1 < 1 then some 0 else some 1) else if x0 = 4 then (bn_ (fX6_lies x1 1 20) fun r9 => (gz_ r9 (some r9))) else if x0 = 5 then (if 100 < x1 then some 0 else some 1) else (if x1 < 1 then some 0 else some 1)) = some res := hF
  refine vv_lv [0, 1] (lv' := [(0, .int x0), (1, .int x1)]) rfl ?_
  refine vv_iload_n C dX6_canBe_0 0 rfl ?_
  by_cases s2 : x0 = 0
  · rw [if_pos s2] at hF
    refine vv_tableIn (tgt := 40) C 0 s2 dX6_canBe_1 (by decide +kernel) (by decide +kernel) rfl (by decide) ?_
    refine vv_iload_n C dX6_canBe_40 1 rfl ?_
    refine vv_iconst (v := 1) C dX6_canBe_41 (by decide) ?_
    refine vv_iconst (v := 5) C dX6_canBe_42 (by decide) ?_
    refine vv_callSi (fun r1 => r1) (fun r1 => w) C hE h0 [.int x1, .int 1, .int 5] [] 3 hF (fun r1 hr1 => kX6_lies l D tys hE w x1 1 5 r1  hr1) gX6_canBe_X6_lies rfl rfl rfl (by decide +kernel) ⟨by decide, by decide⟩ rfl rfl (Nat.le_of_ble_eq_true rfl) dX6_canBe_43 ⟨by decide, by decide⟩ (fun r1 hqr1 hF => ?_)
    obtain ⟨hz, hF⟩ := gz_some hF
    cases hF
    exact hr _ _ dX6_canBe_46 (gz_nar hz)
  rw [if_neg s2] at hF
  by_cases s4 : x0 = 1
  · rw [if_pos s4] at hF
    refine vv_tableIn (tgt := 47) C 1 s4 dX6_canBe_1 (by decide +kernel) (by decide +kernel) rfl (by decide) ?_
    refine vv_iload_n C dX6_canBe_47 1 rfl ?_
    refine vv_bipush (v := 9) C dX6_canBe_48 (by decide) ?_
    refine vv_icmp_gt (tgt := 57) C dX6_canBe_50 (by decide) hF (fun c3 hF => ?_) (fun c3 hF => ?_)
    · refine vv_iconst (v := 0) C dX6_canBe_57 (by decide) ?_
      cases hF
      exact hr _ _ dX6_canBe_58 (by decide +kernel)
    · refine vv_iconst (v := 1) C dX6_canBe_53 (by decide) ?_
      refine vv_goto (tgt := 58) C dX6_canBe_54 (by decide) ?_
      cases hF
      exact hr _ _ dX6_canBe_58 (by decide +kernel)
  rw [if_neg s4] at hF
  by_cases s6 : x0 = 2
  · rw [if_pos s6] at hF
    refine vv_tableIn (tgt := 79) C 2 s6 dX6_canBe_1 (by decide +kernel) (by decide +kernel) rfl (by decide) ?_
    refine vv_iload_n C dX6_canBe_79 1 rfl ?_
    refine vv_iconst (v := 1) C dX6_canBe_80 (by decide) ?_
    refine vv_icmp_lt (tgt := 88) C dX6_canBe_81 (by decide) hF (fun c5 hF => ?_) (fun c5 hF => ?_)
    · refine vv_iconst (v := 0) C dX6_canBe_88 (by decide) ?_
      cases hF
      exact hr _ _ dX6_canBe_89 (by decide +kernel)
    · refine vv_iconst (v := 1) C dX6_canBe_84 (by decide) ?_
      refine vv_goto (tgt := 89) C dX6_canBe_85 (by decide) ?_
      cases hF
      exact hr _ _ dX6_canBe_89 (by decide +kernel)
  rw [if_neg s6] at hF
  by_cases s8 : x0 = 3
  · rw [if_pos s8] at hF
    refine vv_tableIn (tgt := 79) C 3 s8 dX6_canBe_1 (by decide +kernel) (by decide +kernel) rfl (by decide) ?_
    refine vv_iload_n C dX6_canBe_79 1 rfl ?_
    refine vv_iconst (v := 1) C dX6_canBe_80 (by decide) ?_
    refine vv_icmp_lt (tgt := 88) C dX6_canBe_81 (by decide) hF (fun c7 hF => ?_) (fun c7 hF => ?_)
    · refine vv_iconst (v := 0) C dX6_canBe_88 (by decide) ?_
      cases hF
      exact hr _ _ dX6_canBe_89 (by decide +kernel)
    · refine vv_iconst (v := 1) C dX6_canBe_84 (by decide) ?_
      refine vv_goto (tgt := 89) C dX6_canBe_85 (by decide) ?_
      cases hF
      exact hr _ _ dX6_canBe_89 (by decide +kernel)
  rw [if_neg s8] at hF
  by_cases s10 : x0 = 4
  · rw [if_pos s10] at hF
    refine vv_tableIn (tgt := 59) C 4 s10 dX6_canBe_1 (by decide +kernel) (by decide +kernel) rfl (by decide) ?_
    refine vv_iload_n C dX6_canBe_59 1 rfl ?_
    refine vv_iconst (v := 1) C dX6_canBe_60 (by decide) ?_
    refine vv_bipush (v := 20) C dX6_canBe_61 (by decide) ?_
    refine vv_callSi (fun r9 => r9) (fun r9 => w) C hE h0 [.int x1, .int 1, .int 20] [] 3 hF (fun r9 hr9 => kX6_lies l D tys hE w x1 1 20 r9  hr9) gX6_canBe_X6_lies rfl rfl rfl (by decide +kernel) ⟨by decide, by decide⟩ rfl rfl (Nat.le_of_ble_eq_true rfl) dX6_canBe_63 ⟨by decide, by decide⟩ (fun r9 hqr9 hF => ?_)
    obtain ⟨hz, hF⟩ := gz_some hF
    cases hF
    exact hr _ _ dX6_canBe_66 (gz_nar hz)
  rw [if_neg s10] at hF
  by_cases s12 : x0 = 5
  · rw [if_pos s12] at hF
    refine vv_tableIn (tgt := 67) C 5 s12 dX6_canBe_1 (by decide +kernel) (by decide +kernel) rfl (by decide) ?_
    refine vv_iload_n C dX6_canBe_67 1 rfl ?_
    refine vv_bipush (v := 100) C dX6_canBe_68 (by decide) ?_
    refine vv_icmp_gt (tgt := 77) C dX6_canBe_70 (by decide) hF (fun c11 hF => ?_) (fun c11 hF => ?_)
    · refine vv_iconst (v := 0) C dX6_canBe_77 (by decide) ?_
      cases hF
      exact hr _ _ dX6_canBe_78 (by decide +kernel)
    · refine vv_iconst (v := 1) C dX6_canBe_73 (by decide) ?_
      refine vv_goto (tgt := 78) C dX6_canBe_74 (by decide) ?_
      cases hF
      exact hr _ _ dX6_canBe_78 (by decide +kernel)
  rw [if_neg s12] at hF
  have ts2 := lv_neT s2 (a := 0) (by decide +kernel)
  have ts4 := lv_neT s4 (a := 1) (by decide +kernel)
  have ts6 := lv_neT s6 (a := 2) (by decide +kernel)
  have ts8 := lv_neT s8 (a := 3) (by decide +kernel)
  have ts10 := lv_neT s10 (a := 4) (by decide +kernel)
  have ts12 := lv_neT s12 (a := 5) (by decide +kernel)
  refine vv_tableOut (tgt := 79) C dX6_canBe_1 (by omega) (by decide) ?_
  refine vv_iload_n C dX6_canBe_79 1 rfl ?_
  refine vv_iconst (v := 1) C dX6_canBe_80 (by decide) ?_
  refine vv_icmp_lt (tgt := 88) C dX6_canBe_81 (by decide) hF (fun c13 hF => ?_) (fun c13 hF => ?_)
  · refine vv_iconst (v := 0) C dX6_canBe_88 (by decide) ?_
    cases hF
    exact hr _ _ dX6_canBe_89 (by decide +kernel)
  · refine vv_iconst (v := 1) C dX6_canBe_84 (by decide) ?_
    refine vv_goto (tgt := 89) C dX6_canBe_85 (by decide) ?_
    cases hF
    exact hr _ _ dX6_canBe_89 (by decide +kernel)
end
section
/-! J7_fill_53178_q3 -/
abbrev rmJ7_fill_53178_q3 : Room := { frames := 0, cells := 0, slots := 0, locals := 0 }
def fJ7_fill_53178_q3_5 : Nat → Int32 → Int32 → Int32 → St_ → Option St_
  | 0, _, _, _, _ => none
  | n + 1, x1, x2, x3, σ => (if x3 ≤ x2 then some σ else (gd_ x2 10 fun j1 => fJ7_fill_53178_q3_5  n x1 (x2 + 1) x3 (uM σ 3 j1 x1)))
def fJ7_fill_53178_q3 (x1 : Int32) (σ : St_) : Option St_ := fJ7_fill_53178_q3_5  FU_ x1 0 10 σ
set_option maxHeartbeats 4000000 in
set_option maxRecDepth 20000 in
theorem vJ7_fill_53178_q3_5 {p : Program} {l : Launch} {e : Env} {s : State} {m : MethodId} {args : Array Value} {below : List Frame} {meth : Method} {c : Code} {D : va_G} {A : Nat → Prop} {Q : State → Prop} {cy : Nat → ClassId} {ad fad : Nat → Nat} {res : St_} (C : vv_X p s m args meth c D (tysW cy) A 4 cJ7_fill_53178 RJ7 wsJ7_fill_53178) (h0 : eX A s) (hr : rt_V p l e rmJ7_fill_53178_q3 s m args below meth c D A 4 Q cJ7_fill_53178 (wX cy ad fad res)) : ∀ (n : Nat) (x1 : Int32) (x2 : Int32) (x3 : Int32) (σ : St_), fJ7_fill_53178_q3_5  n x1 x2 x3 σ = some res → vv_ p l e rmJ7_fill_53178_q3 s m args below meth c D A 4 Q 0 0 (wX cy ad fad σ) [(0, .ref (ad 3)), (1, .int x1), (2, .int x2), (3, .int x3)] 5 [] := by
  intro n
  induction n with
  | zero =>
    intro x1 x2 x3 σ hF
    cases (show none = some res from hF)
  | succ n ih =>
    intro x1 x2 x3 σ hF
    replace hF : (if x3 ≤ x2 then some σ else (gd_ x2 10 fun j1 => fJ7_fill_53178_q3_5  n x1 (x2 + 1) x3 (uM σ 3 j1 x1))) = some res := hF
    refine vv_iload_n C dJ7_fill_53178_5 2 rfl ?_
    refine vv_iload_n C dJ7_fill_53178_6 3 rfl ?_
    refine vv_icmp_ge (tgt := 20) C dJ7_fill_53178_7 (by decide) hF (fun c2 hF => ?_) (fun c2 hF => ?_)
    · cases hF
      exact hr _ _ dJ7_fill_53178_20
    · refine vv_aload_n C dJ7_fill_53178_10 0 rfl ?_
      refine vv_iload_n C dJ7_fill_53178_11 2 rfl ?_
      refine vv_iload_n C dJ7_fill_53178_12 1 rfl ?_
      refine vv_iast (w' := fun j1 => (wX cy ad fad (uM σ 3 j1 x1))) C 3 0 (wX_g3 cy ad fad _) (tysW_0 cy) hF dJ7_fill_53178_13 (fun _ => wX_a3 _ _ _ _ _) (fun j1 hj1 hF => ?_)
      refine vv_iinc (q := 2) (v := x2 + 1) (lv' := [(2, .int (x2 + 1)), (0, .ref (ad 3)), (1, .int x1), (3, .int x3)]) C dJ7_fill_53178_14 rfl rfl (by decide) rfl ?_
      refine vv_goto (tgt := 5) C dJ7_fill_53178_17 (by decide) ?_
      refine vv_lv [1, 2, 0, 3] rfl ?_
      exact ih x1 (x2 + 1) x3 (uM σ 3 j1 x1)  hF
set_option maxHeartbeats 4000000 in
set_option maxRecDepth 20000 in
theorem kJ7_fill_53178_q3 (l : Launch) (D : va_G) (cy : Nat → ClassId) (ad fad : Nat → Nat) (x1 : Int32) (σ : St_) (res : St_)  (hF : fJ7_fill_53178_q3 x1 σ = some res) : ct_V l D (tysW cy) eX yJ7_fill_53178 wsJ7_fill_53178 rmJ7_fill_53178_q3 [.ref (ad 3), .int x1] (wX cy ad fad σ) (wX cy ad fad res) := by
  refine mt_V (by decide) rfl (Nat.le_of_ble_eq_true rfl) ?_
  intro p e s m args below meth c A Q C h0 hr
  replace C : vv_X p s m args meth c D (tysW cy) A 4 cJ7_fill_53178 RJ7 wsJ7_fill_53178 := C
  replace hF : fJ7_fill_53178_q3_5  FU_ x1 0 10 σ = some res := hF
  refine vv_lv [0, 1] (lv' := [(0, .ref (ad 3)), (1, .int x1)]) rfl ?_
  refine vv_iconst (v := 0) C dJ7_fill_53178_0 (by decide) ?_
  refine vv_istore_n (lv' := [(2, .int 0), (0, .ref (ad 3)), (1, .int x1)]) C dJ7_fill_53178_1 (by decide) rfl ?_
  refine vv_aload_n C dJ7_fill_53178_2 1 rfl ?_
  refine vv_alen (v := 10) C 3 0 (wX_g3 cy ad fad _) (tysW_0 cy) rfl dJ7_fill_53178_3 ?_
  refine vv_istore_n (lv' := [(3, .int 10), (2, .int 0), (0, .ref (ad 3)), (1, .int x1)]) C dJ7_fill_53178_4 (by decide) rfl ?_
  refine vv_lv [2, 3, 1, 0] rfl ?_
  exact vJ7_fill_53178_q3_5 C h0 hr  FU_ x1 0 10 σ  hF
/-! J7_fill_53178_q5 -/
abbrev rmJ7_fill_53178_q5 : Room := { frames := 0, cells := 0, slots := 0, locals := 0 }
def fJ7_fill_53178_q5_5 : Nat → Int32 → Int32 → Int32 → St_ → Option St_
  | 0, _, _, _, _ => none
  | n + 1, x1, x2, x3, σ => (if x3 ≤ x2 then some σ else (gd_ x2 22 fun j1 => fJ7_fill_53178_q5_5  n x1 (x2 + 1) x3 (uM σ 5 j1 x1)))
def fJ7_fill_53178_q5 (x1 : Int32) (σ : St_) : Option St_ := fJ7_fill_53178_q5_5  FU_ x1 0 22 σ
set_option maxHeartbeats 4000000 in
set_option maxRecDepth 20000 in
theorem vJ7_fill_53178_q5_5 {p : Program} {l : Launch} {e : Env} {s : State} {m : MethodId} {args : Array Value} {below : List Frame} {meth : Method} {c : Code} {D : va_G} {A : Nat → Prop} {Q : State → Prop} {cy : Nat → ClassId} {ad fad : Nat → Nat} {res : St_} (C : vv_X p s m args meth c D (tysW cy) A 4 cJ7_fill_53178 RJ7 wsJ7_fill_53178) (h0 : eX A s) (hr : rt_V p l e rmJ7_fill_53178_q5 s m args below meth c D A 4 Q cJ7_fill_53178 (wX cy ad fad res)) : ∀ (n : Nat) (x1 : Int32) (x2 : Int32) (x3 : Int32) (σ : St_), fJ7_fill_53178_q5_5  n x1 x2 x3 σ = some res → vv_ p l e rmJ7_fill_53178_q5 s m args below meth c D A 4 Q 0 0 (wX cy ad fad σ) [(0, .ref (ad 5)), (1, .int x1), (2, .int x2), (3, .int x3)] 5 [] := by
  intro n
  induction n with
  | zero =>
    intro x1 x2 x3 σ hF
    cases (show none = some res from hF)
  | succ n ih =>
    intro x1 x2 x3 σ hF
    replace hF : (if x3 ≤ x2 then some σ else (gd_ x2 22 fun j1 => fJ7_fill_53178_q5_5  n x1 (x2 + 1) x3 (uM σ 5 j1 x1))) = some res := hF
    refine vv_iload_n C dJ7_fill_53178_5 2 rfl ?_
    refine vv_iload_n C dJ7_fill_53178_6 3 rfl ?_
    refine vv_icmp_ge (tgt := 20) C dJ7_fill_53178_7 (by decide) hF (fun c2 hF => ?_) (fun c2 hF => ?_)
    · cases hF
      exact hr _ _ dJ7_fill_53178_20
    · refine vv_aload_n C dJ7_fill_53178_10 0 rfl ?_
      refine vv_iload_n C dJ7_fill_53178_11 2 rfl ?_
      refine vv_iload_n C dJ7_fill_53178_12 1 rfl ?_
      refine vv_iast (w' := fun j1 => (wX cy ad fad (uM σ 5 j1 x1))) C 5 0 (wX_g5 cy ad fad _) (tysW_0 cy) hF dJ7_fill_53178_13 (fun _ => wX_a5 _ _ _ _ _) (fun j1 hj1 hF => ?_)
      refine vv_iinc (q := 2) (v := x2 + 1) (lv' := [(2, .int (x2 + 1)), (0, .ref (ad 5)), (1, .int x1), (3, .int x3)]) C dJ7_fill_53178_14 rfl rfl (by decide) rfl ?_
      refine vv_goto (tgt := 5) C dJ7_fill_53178_17 (by decide) ?_
      refine vv_lv [1, 2, 0, 3] rfl ?_
      exact ih x1 (x2 + 1) x3 (uM σ 5 j1 x1)  hF
set_option maxHeartbeats 4000000 in
set_option maxRecDepth 20000 in
theorem kJ7_fill_53178_q5 (l : Launch) (D : va_G) (cy : Nat → ClassId) (ad fad : Nat → Nat) (x1 : Int32) (σ : St_) (res : St_)  (hF : fJ7_fill_53178_q5 x1 σ = some res) : ct_V l D (tysW cy) eX yJ7_fill_53178 wsJ7_fill_53178 rmJ7_fill_53178_q5 [.ref (ad 5), .int x1] (wX cy ad fad σ) (wX cy ad fad res) := by
  refine mt_V (by decide) rfl (Nat.le_of_ble_eq_true rfl) ?_
  intro p e s m args below meth c A Q C h0 hr
  replace C : vv_X p s m args meth c D (tysW cy) A 4 cJ7_fill_53178 RJ7 wsJ7_fill_53178 := C
  replace hF : fJ7_fill_53178_q5_5  FU_ x1 0 22 σ = some res := hF
  refine vv_lv [0, 1] (lv' := [(0, .ref (ad 5)), (1, .int x1)]) rfl ?_
  refine vv_iconst (v := 0) C dJ7_fill_53178_0 (by decide) ?_
  refine vv_istore_n (lv' := [(2, .int 0), (0, .ref (ad 5)), (1, .int x1)]) C dJ7_fill_53178_1 (by decide) rfl ?_
  refine vv_aload_n C dJ7_fill_53178_2 1 rfl ?_
  refine vv_alen (v := 22) C 5 0 (wX_g5 cy ad fad _) (tysW_0 cy) rfl dJ7_fill_53178_3 ?_
  refine vv_istore_n (lv' := [(3, .int 22), (2, .int 0), (0, .ref (ad 5)), (1, .int x1)]) C dJ7_fill_53178_4 (by decide) rfl ?_
  refine vv_lv [2, 3, 1, 0] rfl ?_
  exact vJ7_fill_53178_q5_5 C h0 hr  FU_ x1 0 22 σ  hF
/-! J7_fill_53178_q8 -/
abbrev rmJ7_fill_53178_q8 : Room := { frames := 0, cells := 0, slots := 0, locals := 0 }
def fJ7_fill_53178_q8_5 : Nat → Int32 → Int32 → Int32 → St_ → Option St_
  | 0, _, _, _, _ => none
  | n + 1, x1, x2, x3, σ => (if x3 ≤ x2 then some σ else (gd_ x2 10 fun j1 => fJ7_fill_53178_q8_5  n x1 (x2 + 1) x3 (uM σ 8 j1 x1)))
def fJ7_fill_53178_q8 (x1 : Int32) (σ : St_) : Option St_ := fJ7_fill_53178_q8_5  FU_ x1 0 10 σ
set_option maxHeartbeats 4000000 in
set_option maxRecDepth 20000 in
theorem vJ7_fill_53178_q8_5 {p : Program} {l : Launch} {e : Env} {s : State} {m : MethodId} {args : Array Value} {below : List Frame} {meth : Method} {c : Code} {D : va_G} {A : Nat → Prop} {Q : State → Prop} {cy : Nat → ClassId} {ad fad : Nat → Nat} {res : St_} (C : vv_X p s m args meth c D (tysW cy) A 4 cJ7_fill_53178 RJ7 wsJ7_fill_53178) (h0 : eX A s) (hr : rt_V p l e rmJ7_fill_53178_q8 s m args below meth c D A 4 Q cJ7_fill_53178 (wX cy ad fad res)) : ∀ (n : Nat) (x1 : Int32) (x2 : Int32) (x3 : Int32) (σ : St_), fJ7_fill_53178_q8_5  n x1 x2 x3 σ = some res → vv_ p l e rmJ7_fill_53178_q8 s m args below meth c D A 4 Q 0 0 (wX cy ad fad σ) [(0, .ref (ad 8)), (1, .int x1), (2, .int x2), (3, .int x3)] 5 [] := by
  intro n
  induction n with
  | zero =>
    intro x1 x2 x3 σ hF
    cases (show none = some res from hF)
  | succ n ih =>
    intro x1 x2 x3 σ hF
    replace hF : (if x3 ≤ x2 then some σ else (gd_ x2 10 fun j1 => fJ7_fill_53178_q8_5  n x1 (x2 + 1) x3 (uM σ 8 j1 x1))) = some res := hF
    refine vv_iload_n C dJ7_fill_53178_5 2 rfl ?_
    refine vv_iload_n C dJ7_fill_53178_6 3 rfl ?_
    refine vv_icmp_ge (tgt := 20) C dJ7_fill_53178_7 (by decide) hF (fun c2 hF => ?_) (fun c2 hF => ?_)
    · cases hF
      exact hr _ _ dJ7_fill_53178_20
    · refine vv_aload_n C dJ7_fill_53178_10 0 rfl ?_
      refine vv_iload_n C dJ7_fill_53178_11 2 rfl ?_
      refine vv_iload_n C dJ7_fill_53178_12 1 rfl ?_
      refine vv_iast (w' := fun j1 => (wX cy ad fad (uM σ 8 j1 x1))) C 8 0 (wX_g8 cy ad fad _) (tysW_0 cy) hF dJ7_fill_53178_13 (fun _ => wX_a8 _ _ _ _ _) (fun j1 hj1 hF => ?_)
      refine vv_iinc (q := 2) (v := x2 + 1) (lv' := [(2, .int (x2 + 1)), (0, .ref (ad 8)), (1, .int x1), (3, .int x3)]) C dJ7_fill_53178_14 rfl rfl (by decide) rfl ?_
      refine vv_goto (tgt := 5) C dJ7_fill_53178_17 (by decide) ?_
      refine vv_lv [1, 2, 0, 3] rfl ?_
      exact ih x1 (x2 + 1) x3 (uM σ 8 j1 x1)  hF
set_option maxHeartbeats 4000000 in
set_option maxRecDepth 20000 in
theorem kJ7_fill_53178_q8 (l : Launch) (D : va_G) (cy : Nat → ClassId) (ad fad : Nat → Nat) (x1 : Int32) (σ : St_) (res : St_)  (hF : fJ7_fill_53178_q8 x1 σ = some res) : ct_V l D (tysW cy) eX yJ7_fill_53178 wsJ7_fill_53178 rmJ7_fill_53178_q8 [.ref (ad 8), .int x1] (wX cy ad fad σ) (wX cy ad fad res) := by
  refine mt_V (by decide) rfl (Nat.le_of_ble_eq_true rfl) ?_
  intro p e s m args below meth c A Q C h0 hr
  replace C : vv_X p s m args meth c D (tysW cy) A 4 cJ7_fill_53178 RJ7 wsJ7_fill_53178 := C
  replace hF : fJ7_fill_53178_q8_5  FU_ x1 0 10 σ = some res := hF
  refine vv_lv [0, 1] (lv' := [(0, .ref (ad 8)), (1, .int x1)]) rfl ?_
  refine vv_iconst (v := 0) C dJ7_fill_53178_0 (by decide) ?_
  refine vv_istore_n (lv' := [(2, .int 0), (0, .ref (ad 8)), (1, .int x1)]) C dJ7_fill_53178_1 (by decide) rfl ?_
  refine vv_aload_n C dJ7_fill_53178_2 1 rfl ?_
  refine vv_alen (v := 10) C 8 0 (wX_g8 cy ad fad _) (tysW_0 cy) rfl dJ7_fill_53178_3 ?_
  refine vv_istore_n (lv' := [(3, .int 10), (2, .int 0), (0, .ref (ad 8)), (1, .int x1)]) C dJ7_fill_53178_4 (by decide) rfl ?_
  refine vv_lv [2, 3, 1, 0] rfl ?_
  exact vJ7_fill_53178_q8_5 C h0 hr  FU_ x1 0 10 σ  hF
/-! J7_fill_53178_q9 -/
abbrev rmJ7_fill_53178_q9 : Room := { frames := 0, cells := 0, slots := 0, locals := 0 }
def fJ7_fill_53178_q9_5 : Nat → Int32 → Int32 → Int32 → St_ → Option St_
  | 0, _, _, _, _ => none
  | n + 1, x1, x2, x3, σ => (if x3 ≤ x2 then some σ else (gd_ x2 10 fun j1 => fJ7_fill_53178_q9_5  n x1 (x2 + 1) x3 (uM σ 9 j1 x1)))
def fJ7_fill_53178_q9 (x1 : Int32) (σ : St_) : Option St_ := fJ7_fill_53178_q9_5  FU_ x1 0 10 σ
set_option maxHeartbeats 4000000 in
set_option maxRecDepth 20000 in
theorem vJ7_fill_53178_q9_5 {p : Program} {l : Launch} {e : Env} {s : State} {m : MethodId} {args : Array Value} {below : List Frame} {meth : Method} {c : Code} {D : va_G} {A : Nat → Prop} {Q : State → Prop} {cy : Nat → ClassId} {ad fad : Nat → Nat} {res : St_} (C : vv_X p s m args meth c D (tysW cy) A 4 cJ7_fill_53178 RJ7 wsJ7_fill_53178) (h0 : eX A s) (hr : rt_V p l e rmJ7_fill_53178_q9 s m args below meth c D A 4 Q cJ7_fill_53178 (wX cy ad fad res)) : ∀ (n : Nat) (x1 : Int32) (x2 : Int32) (x3 : Int32) (σ : St_), fJ7_fill_53178_q9_5  n x1 x2 x3 σ = some res → vv_ p l e rmJ7_fill_53178_q9 s m args below meth c D A 4 Q 0 0 (wX cy ad fad σ) [(0, .ref (ad 9)), (1, .int x1), (2, .int x2), (3, .int x3)] 5 [] := by
  intro n
  induction n with
  | zero =>
    intro x1 x2 x3 σ hF
    cases (show none = some res from hF)
  | succ n ih =>
    intro x1 x2 x3 σ hF
    replace hF : (if x3 ≤ x2 then some σ else (gd_ x2 10 fun j1 => fJ7_fill_53178_q9_5  n x1 (x2 + 1) x3 (uM σ 9 j1 x1))) = some res := hF
    refine vv_iload_n C dJ7_fill_53178_5 2 rfl ?_
    refine vv_iload_n C dJ7_fill_53178_6 3 rfl ?_
    refine vv_icmp_ge (tgt := 20) C dJ7_fill_53178_7 (by decide) hF (fun c2 hF => ?_) (fun c2 hF => ?_)
    · cases hF
      exact hr _ _ dJ7_fill_53178_20
    · refine vv_aload_n C dJ7_fill_53178_10 0 rfl ?_
      refine vv_iload_n C dJ7_fill_53178_11 2 rfl ?_
      refine vv_iload_n C dJ7_fill_53178_12 1 rfl ?_
      refine vv_iast (w' := fun j1 => (wX cy ad fad (uM σ 9 j1 x1))) C 9 0 (wX_g9 cy ad fad _) (tysW_0 cy) hF dJ7_fill_53178_13 (fun _ => wX_a9 _ _ _ _ _) (fun j1 hj1 hF => ?_)
      refine vv_iinc (q := 2) (v := x2 + 1) (lv' := [(2, .int (x2 + 1)), (0, .ref (ad 9)), (1, .int x1), (3, .int x3)]) C dJ7_fill_53178_14 rfl rfl (by decide) rfl ?_
      refine vv_goto (tgt := 5) C dJ7_fill_53178_17 (by decide) ?_
      refine vv_lv [1, 2, 0, 3] rfl ?_
      exact ih x1 (x2 + 1) x3 (uM σ 9 j1 x1)  hF
set_option maxHeartbeats 4000000 in
set_option maxRecDepth 20000 in
theorem kJ7_fill_53178_q9 (l : Launch) (D : va_G) (cy : Nat → ClassId) (ad fad : Nat → Nat) (x1 : Int32) (σ : St_) (res : St_)  (hF : fJ7_fill_53178_q9 x1 σ = some res) : ct_V l D (tysW cy) eX yJ7_fill_53178 wsJ7_fill_53178 rmJ7_fill_53178_q9 [.ref (ad 9), .int x1] (wX cy ad fad σ) (wX cy ad fad res) := by
  refine mt_V (by decide) rfl (Nat.le_of_ble_eq_true rfl) ?_
  intro p e s m args below meth c A Q C h0 hr
  replace C : vv_X p s m args meth c D (tysW cy) A 4 cJ7_fill_53178 RJ7 wsJ7_fill_53178 := C
  replace hF : fJ7_fill_53178_q9_5  FU_ x1 0 10 σ = some res := hF
  refine vv_lv [0, 1] (lv' := [(0, .ref (ad 9)), (1, .int x1)]) rfl ?_
  refine vv_iconst (v := 0) C dJ7_fill_53178_0 (by decide) ?_
  refine vv_istore_n (lv' := [(2, .int 0), (0, .ref (ad 9)), (1, .int x1)]) C dJ7_fill_53178_1 (by decide) rfl ?_
  refine vv_aload_n C dJ7_fill_53178_2 1 rfl ?_
  refine vv_alen (v := 10) C 9 0 (wX_g9 cy ad fad _) (tysW_0 cy) rfl dJ7_fill_53178_3 ?_
  refine vv_istore_n (lv' := [(3, .int 10), (2, .int 0), (0, .ref (ad 9)), (1, .int x1)]) C dJ7_fill_53178_4 (by decide) rfl ?_
  refine vv_lv [2, 3, 1, 0] rfl ?_
  exact vJ7_fill_53178_q9_5 C h0 hr  FU_ x1 0 10 σ  hF
/-! J7_fill_53178_q11 -/
abbrev rmJ7_fill_53178_q11 : Room := { frames := 0, cells := 0, slots := 0, locals := 0 }
def fJ7_fill_53178_q11_5 : Nat → Int32 → Int32 → Int32 → St_ → Option St_
  | 0, _, _, _, _ => none
  | n + 1, x1, x2, x3, σ => (if x3 ≤ x2 then some σ else (gd_ x2 8 fun j1 => fJ7_fill_53178_q11_5  n x1 (x2 + 1) x3 (uM σ 11 j1 x1)))
def fJ7_fill_53178_q11 (x1 : Int32) (σ : St_) : Option St_ := fJ7_fill_53178_q11_5  FU_ x1 0 8 σ
set_option maxHeartbeats 4000000 in
set_option maxRecDepth 20000 in
theorem vJ7_fill_53178_q11_5 {p : Program} {l : Launch} {e : Env} {s : State} {m : MethodId} {args : Array Value} {below : List Frame} {meth : Method} {c : Code} {D : va_G} {A : Nat → Prop} {Q : State → Prop} {cy : Nat → ClassId} {ad fad : Nat → Nat} {res : St_} (C : vv_X p s m args meth c D (tysW cy) A 4 cJ7_fill_53178 RJ7 wsJ7_fill_53178) (h0 : eX A s) (hr : rt_V p l e rmJ7_fill_53178_q11 s m args below meth c D A 4 Q cJ7_fill_53178 (wX cy ad fad res)) : ∀ (n : Nat) (x1 : Int32) (x2 : Int32) (x3 : Int32) (σ : St_), fJ7_fill_53178_q11_5  n x1 x2 x3 σ = some res → vv_ p l e rmJ7_fill_53178_q11 s m args below meth c D A 4 Q 0 0 (wX cy ad fad σ) [(0, .ref (ad 11)), (1, .int x1), (2, .int x2), (3, .int x3)] 5 [] := by
  intro n
  induction n with
  | zero =>
    intro x1 x2 x3 σ hF
    cases (show none = some res from hF)
  | succ n ih =>
    intro x1 x2 x3 σ hF
    replace hF : (if x3 ≤ x2 then some σ else (gd_ x2 8 fun j1 => fJ7_fill_53178_q11_5  n x1 (x2 + 1) x3 (uM σ 11 j1 x1))) = some res := hF
    refine vv_iload_n C dJ7_fill_53178_5 2 rfl ?_
    refine vv_iload_n C dJ7_fill_53178_6 3 rfl ?_
    refine vv_icmp_ge (tgt := 20) C dJ7_fill_53178_7 (by decide) hF (fun c2 hF => ?_) (fun c2 hF => ?_)
    · cases hF
      exact hr _ _ dJ7_fill_53178_20
    · refine vv_aload_n C dJ7_fill_53178_10 0 rfl ?_
      refine vv_iload_n C dJ7_fill_53178_11 2 rfl ?_
      refine vv_iload_n C dJ7_fill_53178_12 1 rfl ?_
      refine vv_iast (w' := fun j1 => (wX cy ad fad (uM σ 11 j1 x1))) C 11 0 (wX_g11 cy ad fad _) (tysW_0 cy) hF dJ7_fill_53178_13 (fun _ => wX_a11 _ _ _ _ _) (fun j1 hj1 hF => ?_)
      refine vv_iinc (q := 2) (v := x2 + 1) (lv' := [(2, .int (x2 + 1)), (0, .ref (ad 11)), (1, .int x1), (3, .int x3)]) C dJ7_fill_53178_14 rfl rfl (by decide) rfl ?_
      refine vv_goto (tgt := 5) C dJ7_fill_53178_17 (by decide) ?_
      refine vv_lv [1, 2, 0, 3] rfl ?_
      exact ih x1 (x2 + 1) x3 (uM σ 11 j1 x1)  hF
set_option maxHeartbeats 4000000 in
set_option maxRecDepth 20000 in
theorem kJ7_fill_53178_q11 (l : Launch) (D : va_G) (cy : Nat → ClassId) (ad fad : Nat → Nat) (x1 : Int32) (σ : St_) (res : St_)  (hF : fJ7_fill_53178_q11 x1 σ = some res) : ct_V l D (tysW cy) eX yJ7_fill_53178 wsJ7_fill_53178 rmJ7_fill_53178_q11 [.ref (ad 11), .int x1] (wX cy ad fad σ) (wX cy ad fad res) := by
  refine mt_V (by decide) rfl (Nat.le_of_ble_eq_true rfl) ?_
  intro p e s m args below meth c A Q C h0 hr
  replace C : vv_X p s m args meth c D (tysW cy) A 4 cJ7_fill_53178 RJ7 wsJ7_fill_53178 := C
  replace hF : fJ7_fill_53178_q11_5  FU_ x1 0 8 σ = some res := hF
  refine vv_lv [0, 1] (lv' := [(0, .ref (ad 11)), (1, .int x1)]) rfl ?_
  refine vv_iconst (v := 0) C dJ7_fill_53178_0 (by decide) ?_
  refine vv_istore_n (lv' := [(2, .int 0), (0, .ref (ad 11)), (1, .int x1)]) C dJ7_fill_53178_1 (by decide) rfl ?_
  refine vv_aload_n C dJ7_fill_53178_2 1 rfl ?_
  refine vv_alen (v := 8) C 11 0 (wX_g11 cy ad fad _) (tysW_0 cy) rfl dJ7_fill_53178_3 ?_
  refine vv_istore_n (lv' := [(3, .int 8), (2, .int 0), (0, .ref (ad 11)), (1, .int x1)]) C dJ7_fill_53178_4 (by decide) rfl ?_
  refine vv_lv [2, 3, 1, 0] rfl ?_
  exact vJ7_fill_53178_q11_5 C h0 hr  FU_ x1 0 8 σ  hF
/-! J7_fill_53178_qr -/
abbrev rmJ7_fill_53178_qr : Room := { frames := 0, cells := 0, slots := 0, locals := 0 }
def fJ7_fill_53178_qr_5 : Nat → Nat → Int32 → Int32 → Int32 → St_ → Option St_
  | 0, _, _, _, _, _ => none
  | n + 1, i0, x1, x2, x3, σ => (if x3 ≤ x2 then some σ else (gd_ x2 10 fun j1 => fJ7_fill_53178_qr_5  n i0 x1 (x2 + 1) x3 (uM σ (12 + i0) j1 x1)))
def fJ7_fill_53178_qr (i0 : Nat) (x1 : Int32) (σ : St_) : Option St_ := fJ7_fill_53178_qr_5  FU_ i0 x1 0 10 σ
set_option maxHeartbeats 4000000 in
set_option maxRecDepth 20000 in
theorem vJ7_fill_53178_qr_5 {p : Program} {l : Launch} {e : Env} {s : State} {m : MethodId} {args : Array Value} {below : List Frame} {meth : Method} {c : Code} {D : va_G} {A : Nat → Prop} {Q : State → Prop} {cy : Nat → ClassId} {ad fad : Nat → Nat} {res : St_} (C : vv_X p s m args meth c D (tysW cy) A 4 cJ7_fill_53178 RJ7 wsJ7_fill_53178) (h0 : eX A s) (hr : rt_V p l e rmJ7_fill_53178_qr s m args below meth c D A 4 Q cJ7_fill_53178 (wX cy ad fad res)) : ∀ (n : Nat) (i0 : Nat) (x1 : Int32) (x2 : Int32) (x3 : Int32) (σ : St_), (i0 < 10) → fJ7_fill_53178_qr_5  n i0 x1 x2 x3 σ = some res → vv_ p l e rmJ7_fill_53178_qr s m args below meth c D A 4 Q 0 0 (wX cy ad fad σ) [(0, .ref (ad (12 + i0))), (1, .int x1), (2, .int x2), (3, .int x3)] 5 [] := by
  intro n
  induction n with
  | zero =>
    intro i0 x1 x2 x3 σ hfl0 hF
    cases (show none = some res from hF)
  | succ n ih =>
    intro i0 x1 x2 x3 σ hfl0 hF
    replace hF : (if x3 ≤ x2 then some σ else (gd_ x2 10 fun j1 => fJ7_fill_53178_qr_5  n i0 x1 (x2 + 1) x3 (uM σ (12 + i0) j1 x1))) = some res := hF
    refine vv_iload_n C dJ7_fill_53178_5 2 rfl ?_
    refine vv_iload_n C dJ7_fill_53178_6 3 rfl ?_
    refine vv_icmp_ge (tgt := 20) C dJ7_fill_53178_7 (by decide) hF (fun c2 hF => ?_) (fun c2 hF => ?_)
    · cases hF
      exact hr _ _ dJ7_fill_53178_20
    · refine vv_aload_n C dJ7_fill_53178_10 0 rfl ?_
      refine vv_iload_n C dJ7_fill_53178_11 2 rfl ?_
      refine vv_iload_n C dJ7_fill_53178_12 1 rfl ?_
      refine vv_iast (w' := fun j1 => (wX cy ad fad (uM σ (12 + i0) j1 x1))) C (12 + i0) 0 (wX_row cy ad fad _ _ hfl0) (tysW_0 cy) hF dJ7_fill_53178_13 (fun _ => wX_rowS _ _ _ _ _ _ hfl0) (fun j1 hj1 hF => ?_)
      refine vv_iinc (q := 2) (v := x2 + 1) (lv' := [(2, .int (x2 + 1)), (0, .ref (ad (12 + i0))), (1, .int x1), (3, .int x3)]) C dJ7_fill_53178_14 rfl rfl (by decide) rfl ?_
      refine vv_goto (tgt := 5) C dJ7_fill_53178_17 (by decide) ?_
      refine vv_lv [1, 2, 0, 3] rfl ?_
      exact ih i0 x1 (x2 + 1) x3 (uM σ (12 + i0) j1 x1) hfl0 hF
set_option maxHeartbeats 4000000 in
set_option maxRecDepth 20000 in
theorem kJ7_fill_53178_qr (l : Launch) (D : va_G) (cy : Nat → ClassId) (ad fad : Nat → Nat) (i0 : Nat) (x1 : Int32) (σ : St_) (res : St_) (hi0 : i0 < 10) (hF : fJ7_fill_53178_qr i0 x1 σ = some res) : ct_V l D (tysW cy) eX yJ7_fill_53178 wsJ7_fill_53178 rmJ7_fill_53178_qr [.ref (ad (12 + i0)), .int x1] (wX cy ad fad σ) (wX cy ad fad res) := by
  refine mt_V (by decide) rfl (Nat.le_of_ble_eq_true rfl) ?_
  intro p e s m args below meth c A Q C h0 hr
  replace C : vv_X p s m args meth c D (tysW cy) A 4 cJ7_fill_53178 RJ7 wsJ7_fill_53178 := C
  replace hF : fJ7_fill_53178_qr_5  FU_ i0 x1 0 10 σ = some res := hF
  refine vv_lv [0, 1] (lv' := [(0, .ref (ad (12 + i0))), (1, .int x1)]) rfl ?_
  refine vv_iconst (v := 0) C dJ7_fill_53178_0 (by decide) ?_
  refine vv_istore_n (lv' := [(2, .int 0), (0, .ref (ad (12 + i0))), (1, .int x1)]) C dJ7_fill_53178_1 (by decide) rfl ?_
  refine vv_aload_n C dJ7_fill_53178_2 1 rfl ?_
  refine vv_alen (v := 10) C (12 + i0) 0 (wX_row cy ad fad _ _ hi0) (tysW_0 cy) rfl dJ7_fill_53178_3 ?_
  refine vv_istore_n (lv' := [(3, .int 10), (2, .int 0), (0, .ref (ad (12 + i0))), (1, .int x1)]) C dJ7_fill_53178_4 (by decide) rfl ?_
  refine vv_lv [2, 3, 1, 0] rfl ?_
  exact vJ7_fill_53178_qr_5 C h0 hr  FU_ i0 x1 0 10 σ hi0 hF
end
section
/-! X3_size -/
abbrev rmX3_size : Room := { frames := 0, cells := 0, slots := 0, locals := 0 }
theorem hi_X3_size_X3 : ∀ w ∈ wsX30, w ∈ wsX3_size := fun w h => List.mem_cons_of_mem _ (List.mem_append_right _ h)
def fX3_size (σ : St_) : Option Int32 := some (sS σ 0)
set_option maxHeartbeats 4000000 in
set_option maxRecDepth 20000 in
theorem kX3_size (l : Launch) (D : va_G) (cy : Nat → ClassId) (ad fad : Nat → Nat) (σ : St_) (res : Int32)  (hF : fX3_size σ = some res) : ct_I l D (tysW cy) eX yX3_size wsX3_size rmX3_size [.ref (ad 24)] (wX cy ad fad σ) res (wX cy ad fad σ) := by
  refine mt_I (by decide) rfl (Nat.le_of_ble_eq_true rfl) ?_
  intro p e s m args below meth c A Q C h0 hr
  replace C : vv_X p s m args meth c D (tysW cy) A 1 cX3_size RX3 wsX3_size := C
  replace hF : some (sS σ 0) = some res := hF
  refine vv_lv [0] (lv' := [(0, .ref (ad 24))]) rfl ?_
  refine vv_aload_n C dX3_size_0 0 rfl ?_
  refine vv_get (v := .int (sS σ 0)) C (hi_X3_size_X3) 24 (wX_g24 cy ad fad _) rfl 1 (by decide) (List.mem_of_getElem? (i := 1) rfl) rfl dX3_size_1 ?_
  cases hF
  exact hr _ _ dX3_size_4 rfl
/-! X3_takesFeed -/
abbrev rmX3_takesFeed : Room := { frames := 0, cells := 0, slots := 0, locals := 0 }
theorem hi_X3_takesFeed_X3 : ∀ w ∈ wsX30, w ∈ wsX3_takesFeed := fun w h => List.mem_cons_of_mem _ (List.mem_append_right _ h)
def fX3_takesFeed (σ : St_) : Option Int32 := (if 60 < ((sS σ 0) + 20) then some 0 else some 1)
set_option maxHeartbeats 4000000 in
set_option maxRecDepth 20000 in
theorem kX3_takesFeed (l : Launch) (D : va_G) (cy : Nat → ClassId) (ad fad : Nat → Nat) (σ : St_) (res : Int32)  (hF : fX3_takesFeed σ = some res) : ct_I l D (tysW cy) eX yX3_takesFeed wsX3_takesFeed rmX3_takesFeed [.ref (ad 24)] (wX cy ad fad σ) res (wX cy ad fad σ) := by
  refine mt_I (by decide) rfl (Nat.le_of_ble_eq_true rfl) ?_
  intro p e s m args below meth c A Q C h0 hr
  replace C : vv_X p s m args meth c D (tysW cy) A 1 cX3_takesFeed RX3 wsX3_takesFeed := C
  replace hF : (if 60 < ((sS σ 0) + 20) then some 0 else some 1) = some res := hF
  refine vv_lv [0] (lv' := [(0, .ref (ad 24))]) rfl ?_
  refine vv_aload_n C dX3_takesFeed_0 0 rfl ?_
  refine vv_get (v := .int (sS σ 0)) C (hi_X3_takesFeed_X3) 24 (wX_g24 cy ad fad _) rfl 1 (by decide) (List.mem_of_getElem? (i := 1) rfl) rfl dX3_takesFeed_1 ?_
  refine vv_bipush (v := 20) C dX3_takesFeed_4 (by decide) ?_
  refine vv_iadd C dX3_takesFeed_6 ?_
  refine vv_bipush (v := 60) C dX3_takesFeed_7 (by decide) ?_
  refine vv_icmp_gt (tgt := 16) C dX3_takesFeed_9 (by decide) hF (fun c1 hF => ?_) (fun c1 hF => ?_)
  · refine vv_iconst (v := 0) C dX3_takesFeed_16 (by decide) ?_
    cases hF
    exact hr _ _ dX3_takesFeed_17 (by decide +kernel)
  · refine vv_iconst (v := 1) C dX3_takesFeed_12 (by decide) ?_
    refine vv_goto (tgt := 17) C dX3_takesFeed_13 (by decide) ?_
    cases hF
    exact hr _ _ dX3_takesFeed_17 (by decide +kernel)
/-! X3_put -/
abbrev rmX3_put : Room := { frames := 1, cells := 0, slots := 0, locals := 21 }
theorem hi_X3_put_X3 : ∀ w ∈ wsX30, w ∈ wsX3_put := fun w h => List.mem_cons_of_mem _ (List.mem_append_right _ h)
def fX3_put_45 (k3 : Int32 → Int32 → St_ → Option St_) (x1 : Int32) (x2 : Int32) (σ : St_) : Option St_ := k3 x1 (x2 + (-8)) σ
def fX3_put_3 : Nat → Int32 → Int32 → St_ → Option St_
  | 0, _, _, _ => none
  | n + 1, x1, x2, σ => (if x2 < 0 then some σ else (bn_ (fX5_isBelow (sS σ 0) 60) fun r1 => (if r1 = 0 then fX3_put_45 (fX3_put_3  n) x1 x2 σ else (gd_ (sS σ 0) 60 fun j2 => fX3_put_45 (fX3_put_3  n) x1 x2 (uS (uM σ 0 j2 ((ushr_ x1 x2) &&& 255)) 0 ((sS (uM σ 0 j2 ((ushr_ x1 x2) &&& 255)) 0) + 1))))))
def fX3_put (x1 : Int32) (σ : St_) : Option St_ := fX3_put_3  FU_ x1 24 σ
set_option maxHeartbeats 4000000 in
set_option maxRecDepth 20000 in
theorem vX3_put_45 {p : Program} {l : Launch} {e : Env} {s : State} {m : MethodId} {args : Array Value} {below : List Frame} {meth : Method} {c : Code} {D : va_G} {A : Nat → Prop} {Q : State → Prop} {cy : Nat → ClassId} {ad fad : Nat → Nat} {k3 : Int32 → Int32 → St_ → Option St_} {res : St_} (C : vv_X p s m args meth c D (tysW cy) A 3 cX3_put RX3 wsX3_put) (h0 : eX A s) (hr : rt_V p l e rmX3_put s m args below meth c D A 3 Q cX3_put (wX cy ad fad res)) (hk3 : ∀ (x1 : Int32) (x2 : Int32) (σ : St_), k3 x1 x2 σ = some res → vv_ p l e rmX3_put s m args below meth c D A 3 Q 0 0 (wX cy ad fad σ) [(0, .ref (ad 24)), (1, .int x1), (2, .int x2)] 3 []) : ∀ (x1 : Int32) (x2 : Int32) (σ : St_), fX3_put_45 k3 x1 x2 σ = some res → vv_ p l e rmX3_put s m args below meth c D A 3 Q 0 0 (wX cy ad fad σ) [(0, .ref (ad 24)), (1, .int x1), (2, .int x2)] 45 [] := by
  intro x1 x2 σ hF
  replace hF : k3 x1 (x2 + (-8)) σ = some res := hF
  refine vv_iinc (q := 2) (v := x2 + (-8)) (lv' := [(2, .int (x2 + (-8))), (0, .ref (ad 24)), (1, .int x1)]) C dX3_put_45 rfl rfl (by decide) rfl ?_
  refine vv_goto (tgt := 3) C dX3_put_48 (by decide) ?_
  refine vv_lv [1, 2, 0] rfl ?_
  exact hk3 x1 (x2 + (-8)) σ  hF
set_option maxHeartbeats 4000000 in
set_option maxRecDepth 20000 in
theorem vX3_put_3 {p : Program} {l : Launch} {e : Env} {s : State} {m : MethodId} {args : Array Value} {below : List Frame} {meth : Method} {c : Code} {D : va_G} {A : Nat → Prop} {Q : State → Prop} {cy : Nat → ClassId} {ad fad : Nat → Nat} {res : St_} (C : vv_X p s m args meth c D (tysW cy) A 3 cX3_put RX3 wsX3_put) (h0 : eX A s) (hr : rt_V p l e rmX3_put s m args below meth c D A 3 Q cX3_put (wX cy ad fad res)) : ∀ (n : Nat) (x1 : Int32) (x2 : Int32) (σ : St_), fX3_put_3  n x1 x2 σ = some res → vv_ p l e rmX3_put s m args below meth c D A 3 Q 0 0 (wX cy ad fad σ) [(0, .ref (ad 24)), (1, .int x1), (2, .int x2)] 3 [] := by
  intro n
  induction n with
  | zero =>
    intro x1 x2 σ hF
    cases (show none = some res from hF)
  | succ n ih =>
    intro x1 x2 σ hF
    replace hF : (if x2 < 0 then some σ else (bn_ (fX5_isBelow (sS σ 0) 60) fun r1 => (if r1 = 0 then fX3_put_45 (fX3_put_3  n) x1 x2 σ else (gd_ (sS σ 0) 60 fun j2 => fX3_put_45 (fX3_put_3  n) x1 x2 (uS (uM σ 0 j2 ((ushr_ x1 x2) &&& 255)) 0 ((sS (uM σ 0 j2 ((ushr_ x1 x2) &&& 255)) 0) + 1)))))) = some res := hF
    refine vv_iload_n C dX3_put_3 2 rfl ?_
    refine vv_if_lt (tgt := 51) C dX3_put_4 (by decide) hF (fun c4 hF => ?_) (fun c4 hF => ?_)
    · cases hF
      exact hr _ _ dX3_put_51
    · refine vv_aload_n C dX3_put_7 0 rfl ?_
      refine vv_get (v := .int (sS σ 0)) C (hi_X3_put_X3) 24 (wX_g24 cy ad fad _) rfl 1 (by decide) (List.mem_of_getElem? (i := 1) rfl) rfl dX3_put_8 ?_
      refine vv_bipush (v := 60) C dX3_put_11 (by decide) ?_
      refine vv_callNi (fun r1 => r1) (fun r1 => (wX cy ad fad σ)) C eX_ok h0 [.int (sS σ 0), .int 60] [] 2 hF (fun r1 hr1 => kX5_isBelow l D (tysW cy) eX_ok (wX cy ad fad σ) (sS σ 0) 60 r1  hr1) gX3_put_X5_isBelow_n17 (eX_nX3_17 h0) (List.mem_of_getElem? (i := 4) rfl) (List.mem_of_getElem? (i := 3) rfl) rfl rfl rfl (by decide +kernel) ⟨by decide, by decide⟩ rfl rfl (Nat.le_of_ble_eq_true rfl) dX3_put_13 ⟨by decide, by decide⟩ (fun r1 hqr1 hF => ?_)
      refine vv_if_eq (tgt := 45) C dX3_put_16 (by decide) hF (fun c3 hF => ?_) (fun c3 hF => ?_)
      · refine vv_lv [0, 1, 2] rfl ?_
        exact vX3_put_45 C h0 hr (ih) x1 x2 σ  hF
      · refine vv_aload_n C dX3_put_19 0 rfl ?_
        refine vv_get (v := .ref (ad 0)) C (hi_X3_put_X3) 24 (wX_g24 cy ad fad _) rfl 0 (by decide) (List.mem_of_getElem? (i := 2) rfl) rfl dX3_put_20 ?_
        refine vv_aload_n C dX3_put_23 0 rfl ?_
        refine vv_get (v := .int (sS σ 0)) C (hi_X3_put_X3) 24 (wX_g24 cy ad fad _) rfl 1 (by decide) (List.mem_of_getElem? (i := 1) rfl) rfl dX3_put_24 ?_
        refine vv_iload_n C dX3_put_27 1 rfl ?_
        refine vv_iload_n C dX3_put_28 2 rfl ?_
        refine vv_iushr C dX3_put_29 ?_
        refine vv_sipush (v := 255) C dX3_put_30 (by decide) ?_
        refine vv_iand C dX3_put_33 ?_
        refine vv_iast (w' := fun j2 => (wX cy ad fad (uM σ 0 j2 ((ushr_ x1 x2) &&& 255)))) C 0 0 (wX_g0 cy ad fad _) (tysW_0 cy) hF dX3_put_34 (fun _ => wX_a0 _ _ _ _ _) (fun j2 hj2 hF => ?_)
        refine vv_aload_n C dX3_put_35 0 rfl ?_
        refine vv_dup C dX3_put_36 rfl ?_
        refine vv_get (v := .int (sS (uM σ 0 j2 ((ushr_ x1 x2) &&& 255)) 0)) C (hi_X3_put_X3) 24 (wX_g24 cy ad fad _) rfl 1 (by decide) (List.mem_of_getElem? (i := 1) rfl) rfl dX3_put_37 ?_
        refine vv_iconst (v := 1) C dX3_put_40 (by decide) ?_
        refine vv_iadd C dX3_put_41 ?_
        refine vv_put (w' := (wX cy ad fad (uS (uM σ 0 j2 ((ushr_ x1 x2) &&& 255)) 0 ((sS (uM σ 0 j2 ((ushr_ x1 x2) &&& 255)) 0) + 1)))) C (hi_X3_put_X3) tyX3 tyX3_ok nmX3 24 (wX_g24 cy ad fad _) rfl 1 (by decide) (List.mem_of_getElem? (i := 1) rfl) rfl rfl rfl (Nat.le_of_ble_eq_true rfl) dX3_put_42 (wX_s0 _ _ _ _ _) ?_
        refine vv_lv [0, 1, 2] rfl ?_
        exact vX3_put_45 C h0 hr (ih) x1 x2 (uS (uM σ 0 j2 ((ushr_ x1 x2) &&& 255)) 0 ((sS (uM σ 0 j2 ((ushr_ x1 x2) &&& 255)) 0) + 1))  hF
set_option maxHeartbeats 4000000 in
set_option maxRecDepth 20000 in
theorem kX3_put (l : Launch) (D : va_G) (cy : Nat → ClassId) (ad fad : Nat → Nat) (x1 : Int32) (σ : St_) (res : St_)  (hF : fX3_put x1 σ = some res) : ct_V l D (tysW cy) eX yX3_put wsX3_put rmX3_put [.ref (ad 24), .int x1] (wX cy ad fad σ) (wX cy ad fad res) := by
  refine mt_V (by decide) rfl (Nat.le_of_ble_eq_true rfl) ?_
  intro p e s m args below meth c A Q C h0 hr
  replace C : vv_X p s m args meth c D (tysW cy) A 3 cX3_put RX3 wsX3_put := C
  replace hF : fX3_put_3  FU_ x1 24 σ = some res := hF
  refine vv_lv [0, 1] (lv' := [(0, .ref (ad 24)), (1, .int x1)]) rfl ?_
  refine vv_bipush (v := 24) C dX3_put_0 (by decide) ?_
  refine vv_istore_n (lv' := [(2, .int 24), (0, .ref (ad 24)), (1, .int x1)]) C dX3_put_2 (by decide) rfl ?_
  refine vv_lv [1, 2, 0] rfl ?_
  exact vX3_put_3 C h0 hr  FU_ x1 24 σ  hF
/-! X3_cutTo -/
abbrev rmX3_cutTo : Room := { frames := 0, cells := 0, slots := 0, locals := 0 }
theorem hi_X3_cutTo_X3 : ∀ w ∈ wsX30, w ∈ wsX3_cutTo := fun w h => List.mem_cons_of_mem _ (List.mem_append_right _ h)
def fX3_cutTo (x1 : Int32) (σ : St_) : Option St_ := (if x1 < 0 then some σ else (if (sS σ 0) ≤ x1 then some σ else some (uS σ 0 x1)))
set_option maxHeartbeats 4000000 in
set_option maxRecDepth 20000 in
theorem kX3_cutTo (l : Launch) (D : va_G) (cy : Nat → ClassId) (ad fad : Nat → Nat) (x1 : Int32) (σ : St_) (res : St_)  (hF : fX3_cutTo x1 σ = some res) : ct_V l D (tysW cy) eX yX3_cutTo wsX3_cutTo rmX3_cutTo [.ref (ad 24), .int x1] (wX cy ad fad σ) (wX cy ad fad res) := by
  refine mt_V (by decide) rfl (Nat.le_of_ble_eq_true rfl) ?_
  intro p e s m args below meth c A Q C h0 hr
  replace C : vv_X p s m args meth c D (tysW cy) A 2 cX3_cutTo RX3 wsX3_cutTo := C
  replace hF : (if x1 < 0 then some σ else (if (sS σ 0) ≤ x1 then some σ else some (uS σ 0 x1))) = some res := hF
  refine vv_lv [0, 1] (lv' := [(0, .ref (ad 24)), (1, .int x1)]) rfl ?_
  refine vv_iload_n C dX3_cutTo_0 1 rfl ?_
  refine vv_if_lt (tgt := 17) C dX3_cutTo_1 (by decide) hF (fun c2 hF => ?_) (fun c2 hF => ?_)
  · cases hF
    exact hr _ _ dX3_cutTo_17
  · refine vv_iload_n C dX3_cutTo_4 1 rfl ?_
    refine vv_aload_n C dX3_cutTo_5 0 rfl ?_
    refine vv_get (v := .int (sS σ 0)) C (hi_X3_cutTo_X3) 24 (wX_g24 cy ad fad _) rfl 1 (by decide) (List.mem_of_getElem? (i := 1) rfl) rfl dX3_cutTo_6 ?_
    refine vv_icmp_ge (tgt := 17) C dX3_cutTo_9 (by decide) hF (fun c1 hF => ?_) (fun c1 hF => ?_)
    · cases hF
      exact hr _ _ dX3_cutTo_17
    · refine vv_aload_n C dX3_cutTo_12 0 rfl ?_
      refine vv_iload_n C dX3_cutTo_13 1 rfl ?_
      refine vv_put (w' := (wX cy ad fad (uS σ 0 x1))) C (hi_X3_cutTo_X3) tyX3 tyX3_ok nmX3 24 (wX_g24 cy ad fad _) rfl 1 (by decide) (List.mem_of_getElem? (i := 1) rfl) rfl rfl rfl (Nat.le_of_ble_eq_true rfl) dX3_cutTo_14 (wX_s0 _ _ _ _ _) ?_
      cases hF
      exact hr _ _ dX3_cutTo_17
/-! X3_at -/
abbrev rmX3_at : Room := { frames := 1, cells := 0, slots := 0, locals := 21 }
theorem hi_X3_at_X3 : ∀ w ∈ wsX30, w ∈ wsX3_at := fun w h => List.mem_cons_of_mem _ (List.mem_append_right _ h)
def fX3_at (x1 : Int32) (σ : St_) : Option Int32 := (bn_ (fX5_isBelow x1 (sS σ 0)) fun r1 => (if r1 = 0 then some (-1) else (gd_ x1 60 fun j2 => some (sM σ 0 j2))))
set_option maxHeartbeats 4000000 in
set_option maxRecDepth 20000 in
theorem kX3_at (l : Launch) (D : va_G) (cy : Nat → ClassId) (ad fad : Nat → Nat) (x1 : Int32) (σ : St_) (res : Int32)  (hF : fX3_at x1 σ = some res) : ct_I l D (tysW cy) eX yX3_at wsX3_at rmX3_at [.ref (ad 24), .int x1] (wX cy ad fad σ) res (wX cy ad fad σ) := by
  refine mt_I (by decide) rfl (Nat.le_of_ble_eq_true rfl) ?_
  intro p e s m args below meth c A Q C h0 hr
  replace C : vv_X p s m args meth c D (tysW cy) A 2 cX3_at RX3 wsX3_at := C
  replace hF : (bn_ (fX5_isBelow x1 (sS σ 0)) fun r1 => (if r1 = 0 then some (-1) else (gd_ x1 60 fun j2 => some (sM σ 0 j2)))) = some res := hF
  refine vv_lv [0, 1] (lv' := [(0, .ref (ad 24)), (1, .int x1)]) rfl ?_
  refine vv_iload_n C dX3_at_0 1 rfl ?_
  refine vv_aload_n C dX3_at_1 0 rfl ?_
  refine vv_get (v := .int (sS σ 0)) C (hi_X3_at_X3) 24 (wX_g24 cy ad fad _) rfl 1 (by decide) (List.mem_of_getElem? (i := 1) rfl) rfl dX3_at_2 ?_
  refine vv_callNi (fun r1 => r1) (fun r1 => (wX cy ad fad σ)) C eX_ok h0 [.int x1, .int (sS σ 0)] [] 2 hF (fun r1 hr1 => kX5_isBelow l D (tysW cy) eX_ok (wX cy ad fad σ) x1 (sS σ 0) r1  hr1) gX3_at_X5_isBelow_n17 (eX_nX3_17 h0) (List.mem_of_getElem? (i := 4) rfl) (List.mem_of_getElem? (i := 3) rfl) rfl rfl rfl (by decide +kernel) ⟨by decide, by decide⟩ rfl rfl (Nat.le_of_ble_eq_true rfl) dX3_at_5 ⟨by decide, by decide⟩ (fun r1 hqr1 hF => ?_)
  refine vv_if_eq (tgt := 20) C dX3_at_8 (by decide) hF (fun c3 hF => ?_) (fun c3 hF => ?_)
  · refine vv_iconst (v := (-1)) C dX3_at_20 (by decide) ?_
    cases hF
    exact hr _ _ dX3_at_21 rfl
  · refine vv_aload_n C dX3_at_11 0 rfl ?_
    refine vv_get (v := .ref (ad 0)) C (hi_X3_at_X3) 24 (wX_g24 cy ad fad _) rfl 0 (by decide) (List.mem_of_getElem? (i := 2) rfl) rfl dX3_at_12 ?_
    refine vv_iload_n C dX3_at_15 1 rfl ?_
    refine vv_iald C 0 0 (wX_g0 cy ad fad _) (tysW_0 cy) hF dX3_at_16 (fun j2 hj2 hF => ?_)
    refine vv_goto (tgt := 21) C dX3_at_17 (by decide) ?_
    cases hF
    exact hr _ _ dX3_at_21 rfl
/-! X3_hasDigitAt -/
abbrev rmX3_hasDigitAt : Room := { frames := 2, cells := 0, slots := 0, locals := 42 }
def fX3_hasDigitAt (x1 : Int32) (σ : St_) : Option Int32 := (bn_ (fX3_at x1 σ) fun r1 => (if r1 < 48 then some 0 else (bn_ (fX3_at x1 σ) fun r2 => (if 57 < r2 then some 0 else some 1))))
set_option maxHeartbeats 4000000 in
set_option maxRecDepth 20000 in
theorem kX3_hasDigitAt (l : Launch) (D : va_G) (cy : Nat → ClassId) (ad fad : Nat → Nat) (x1 : Int32) (σ : St_) (res : Int32)  (hF : fX3_hasDigitAt x1 σ = some res) : ct_I l D (tysW cy) eX yX3_hasDigitAt wsX3_hasDigitAt rmX3_hasDigitAt [.ref (ad 24), .int x1] (wX cy ad fad σ) res (wX cy ad fad σ) := by
  refine mt_I (by decide) rfl (Nat.le_of_ble_eq_true rfl) ?_
  intro p e s m args below meth c A Q C h0 hr
  replace C : vv_X p s m args meth c D (tysW cy) A 2 cX3_hasDigitAt RX3 wsX3_hasDigitAt := C
  replace hF : (bn_ (fX3_at x1 σ) fun r1 => (if r1 < 48 then some 0 else (bn_ (fX3_at x1 σ) fun r2 => (if 57 < r2 then some 0 else some 1)))) = some res := hF
  refine vv_lv [0, 1] (lv' := [(0, .ref (ad 24)), (1, .int x1)]) rfl ?_
  refine vv_aload_n C dX3_hasDigitAt_0 0 rfl ?_
  refine vv_iload_n C dX3_hasDigitAt_1 1 rfl ?_
  refine vv_callVi (fun r1 => r1) (fun r1 => (wX cy ad fad σ)) C eX_ok h0 [.int x1] [] 1 hF (fun r1 hr1 => kX3_at l D cy ad fad x1 σ r1  hr1) gX3_hasDigitAt_X3_at rfl rfl rfl (by decide +kernel) ⟨by decide, by decide⟩ 24 (wX_g24 cy ad fad _) rfl rfl rfl (Nat.le_of_ble_eq_true rfl) dX3_hasDigitAt_2 ⟨by decide, by decide⟩ (fun r1 hqr1 hF => ?_)
  refine vv_bipush (v := 48) C dX3_hasDigitAt_5 (by decide) ?_
  refine vv_icmp_lt (tgt := 24) C dX3_hasDigitAt_7 (by decide) hF (fun c4 hF => ?_) (fun c4 hF => ?_)
  · refine vv_iconst (v := 0) C dX3_hasDigitAt_24 (by decide) ?_
    cases hF
    exact hr _ _ dX3_hasDigitAt_25 (by decide +kernel)
  · refine vv_aload_n C dX3_hasDigitAt_10 0 rfl ?_
    refine vv_iload_n C dX3_hasDigitAt_11 1 rfl ?_
    refine vv_callVi (fun r2 => r2) (fun r2 => (wX cy ad fad σ)) C eX_ok h0 [.int x1] [] 1 hF (fun r2 hr2 => kX3_at l D cy ad fad x1 σ r2  hr2) gX3_hasDigitAt_X3_at rfl rfl rfl (by decide +kernel) ⟨by decide, by decide⟩ 24 (wX_g24 cy ad fad _) rfl rfl rfl (Nat.le_of_ble_eq_true rfl) dX3_hasDigitAt_12 ⟨by decide, by decide⟩ (fun r2 hqr2 hF => ?_)
    refine vv_bipush (v := 57) C dX3_hasDigitAt_15 (by decide) ?_
    refine vv_icmp_gt (tgt := 24) C dX3_hasDigitAt_17 (by decide) hF (fun c3 hF => ?_) (fun c3 hF => ?_)
    · refine vv_iconst (v := 0) C dX3_hasDigitAt_24 (by decide) ?_
      cases hF
      exact hr _ _ dX3_hasDigitAt_25 (by decide +kernel)
    · refine vv_iconst (v := 1) C dX3_hasDigitAt_20 (by decide) ?_
      refine vv_goto (tgt := 25) C dX3_hasDigitAt_21 (by decide) ?_
      cases hF
      exact hr _ _ dX3_hasDigitAt_25 (by decide +kernel)
end
section
/-! X2_number -/
abbrev rmX2_number : Room := { frames := 1, cells := 0, slots := 0, locals := 21 }
theorem hi_X2_number_X2 : ∀ w ∈ wsX20, w ∈ wsX2_number := fun w h => List.mem_cons_of_mem _ (List.mem_append_right _ h)
def fX2_number (x1 : Int32) (σ : St_) : Option Int32 := (bn_ (fX5_isBelow x1 6) fun r1 => (if r1 = 0 then some (-1) else (gd_ x1 6 fun j2 => some (sM σ 1 j2))))
set_option maxHeartbeats 4000000 in
set_option maxRecDepth 20000 in
theorem kX2_number (l : Launch) (D : va_G) (cy : Nat → ClassId) (ad fad : Nat → Nat) (x1 : Int32) (σ : St_) (res : Int32)  (hF : fX2_number x1 σ = some res) : ct_I l D (tysW cy) eX yX2_number wsX2_number rmX2_number [.ref (ad 25), .int x1] (wX cy ad fad σ) res (wX cy ad fad σ) := by
  refine mt_I (by decide) rfl (Nat.le_of_ble_eq_true rfl) ?_
  intro p e s m args below meth c A Q C h0 hr
  replace C : vv_X p s m args meth c D (tysW cy) A 2 cX2_number RX2 wsX2_number := C
  replace hF : (bn_ (fX5_isBelow x1 6) fun r1 => (if r1 = 0 then some (-1) else (gd_ x1 6 fun j2 => some (sM σ 1 j2)))) = some res := hF
  refine vv_lv [0, 1] (lv' := [(0, .ref (ad 25)), (1, .int x1)]) rfl ?_
  refine vv_iload_n C dX2_number_0 1 rfl ?_
  refine vv_bipush (v := 6) C dX2_number_1 (by decide) ?_
  refine vv_callNi (fun r1 => r1) (fun r1 => (wX cy ad fad σ)) C eX_ok h0 [.int x1, .int 6] [] 2 hF (fun r1 hr1 => kX5_isBelow l D (tysW cy) eX_ok (wX cy ad fad σ) x1 6 r1  hr1) gX2_number_X5_isBelow_n31 (eX_nX2_31 h0) (List.mem_of_getElem? (i := 3) rfl) (List.mem_of_getElem? (i := 2) rfl) rfl rfl rfl (by decide +kernel) ⟨by decide, by decide⟩ rfl rfl (Nat.le_of_ble_eq_true rfl) dX2_number_3 ⟨by decide, by decide⟩ (fun r1 hqr1 hF => ?_)
  refine vv_if_eq (tgt := 18) C dX2_number_6 (by decide) hF (fun c3 hF => ?_) (fun c3 hF => ?_)
  · refine vv_iconst (v := (-1)) C dX2_number_18 (by decide) ?_
    cases hF
    exact hr _ _ dX2_number_19 rfl
  · refine vv_aload_n C dX2_number_9 0 rfl ?_
    refine vv_get (v := .ref (ad 1)) C (hi_X2_number_X2) 25 (wX_g25 cy ad fad _) rfl 0 (by decide) (List.mem_of_getElem? (i := 1) rfl) rfl dX2_number_10 ?_
    refine vv_iload_n C dX2_number_13 1 rfl ?_
    refine vv_iald C 1 0 (wX_g1 cy ad fad _) (tysW_0 cy) hF dX2_number_14 (fun j2 hj2 hF => ?_)
    refine vv_goto (tgt := 19) C dX2_number_15 (by decide) ?_
    cases hF
    exact hr _ _ dX2_number_19 rfl
/-! X0_isOut -/
abbrev rmX0_isOut : Room := { frames := 0, cells := 0, slots := 0, locals := 0 }
theorem hi_X0_isOut_X0 : ∀ w ∈ wsX00, w ∈ wsX0_isOut := fun w h => List.mem_cons_of_mem _ (List.mem_append_right _ h)
def fX0_isOut (i0 : Nat) (σ : St_) : Option Int32 := (if (sF σ i0 4) ≤ 0 then some 0 else some 1)
set_option maxHeartbeats 4000000 in
set_option maxRecDepth 20000 in
theorem kX0_isOut (l : Launch) (D : va_G) (cy : Nat → ClassId) (ad fad : Nat → Nat) (i0 : Nat) (σ : St_) (res : Int32) (hi0 : i0 < sN σ) (hF : fX0_isOut i0 σ = some res) : ct_I l D (tysW cy) eX yX0_isOut wsX0_isOut rmX0_isOut [.ref (fad i0)] (wX cy ad fad σ) res (wX cy ad fad σ) := by
  refine mt_I (by decide) rfl (Nat.le_of_ble_eq_true rfl) ?_
  intro p e s m args below meth c A Q C h0 hr
  replace C : vv_X p s m args meth c D (tysW cy) A 1 cX0_isOut RX0 wsX0_isOut := C
  replace hF : (if (sF σ i0 4) ≤ 0 then some 0 else some 1) = some res := hF
  refine vv_lv [0] (lv' := [(0, .ref (fad i0))]) rfl ?_
  refine vv_aload_n C dX0_isOut_0 0 rfl ?_
  refine vv_get (v := .int (sF σ i0 4)) C (hi_X0_isOut_X0) (29 + i0) (wX_farm cy ad fad σ hi0) rfl 4 (by decide) (List.mem_of_getElem? (i := 1) rfl) rfl dX0_isOut_1 ?_
  refine vv_if_le (tgt := 11) C dX0_isOut_4 (by decide) hF (fun c1 hF => ?_) (fun c1 hF => ?_)
  · refine vv_iconst (v := 0) C dX0_isOut_11 (by decide) ?_
    cases hF
    exact hr _ _ dX0_isOut_12 (by decide +kernel)
  · refine vv_iconst (v := 1) C dX0_isOut_7 (by decide) ?_
    refine vv_goto (tgt := 12) C dX0_isOut_8 (by decide) ?_
    cases hF
    exact hr _ _ dX0_isOut_12 (by decide +kernel)
/-! X0_sellBaskets -/
abbrev rmX0_sellBaskets : Room := { frames := 0, cells := 0, slots := 0, locals := 0 }
theorem hi_X0_sellBaskets_X0 : ∀ w ∈ wsX00, w ∈ wsX0_sellBaskets := fun w h => List.mem_cons_of_mem _ (List.mem_append_right _ h)
def fX0_sellBaskets (i0 : Nat) (x1 : Int32) (σ : St_) : Option St_ := some (uF (uF σ i0 5 ((sF σ i0 5) + x1)) i0 6 ((sF (uF σ i0 5 ((sF σ i0 5) + x1)) i0 6) + x1))
set_option maxHeartbeats 4000000 in
set_option maxRecDepth 20000 in
theorem kX0_sellBaskets (l : Launch) (D : va_G) (cy : Nat → ClassId) (ad fad : Nat → Nat) (i0 : Nat) (x1 : Int32) (σ : St_) (res : St_) (hi0 : i0 < sN σ) (hF : fX0_sellBaskets i0 x1 σ = some res) : ct_V l D (tysW cy) eX yX0_sellBaskets wsX0_sellBaskets rmX0_sellBaskets [.ref (fad i0), .int x1] (wX cy ad fad σ) (wX cy ad fad res) := by
  refine mt_V (by decide) rfl (Nat.le_of_ble_eq_true rfl) ?_
  intro p e s m args below meth c A Q C h0 hr
  replace C : vv_X p s m args meth c D (tysW cy) A 2 cX0_sellBaskets RX0 wsX0_sellBaskets := C
  replace hF : some (uF (uF σ i0 5 ((sF σ i0 5) + x1)) i0 6 ((sF (uF σ i0 5 ((sF σ i0 5) + x1)) i0 6) + x1)) = some res := hF
  refine vv_lv [0, 1] (lv' := [(0, .ref (fad i0)), (1, .int x1)]) rfl ?_
  refine vv_aload_n C dX0_sellBaskets_0 0 rfl ?_
  refine vv_dup C dX0_sellBaskets_1 rfl ?_
  refine vv_get (v := .int (sF σ i0 5)) C (hi_X0_sellBaskets_X0) (29 + i0) (wX_farm cy ad fad σ hi0) rfl 5 (by decide) (List.mem_of_getElem? (i := 1) rfl) rfl dX0_sellBaskets_2 ?_
  refine vv_iload_n C dX0_sellBaskets_5 1 rfl ?_
  refine vv_iadd C dX0_sellBaskets_6 ?_
  refine vv_put (w' := (wX cy ad fad (uF σ i0 5 ((sF σ i0 5) + x1)))) C (hi_X0_sellBaskets_X0) tyX0 tyX0_ok nmX0 (29 + i0) (wX_farm cy ad fad σ hi0) rfl 5 (by decide) (List.mem_of_getElem? (i := 1) rfl) rfl rfl rfl (Nat.le_of_ble_eq_true rfl) dX0_sellBaskets_7 (wX_farmS cy ad fad σ hi0 5 (by decide) _) ?_
  refine vv_aload_n C dX0_sellBaskets_10 0 rfl ?_
  refine vv_dup C dX0_sellBaskets_11 rfl ?_
  refine vv_get (v := .int (sF (uF σ i0 5 ((sF σ i0 5) + x1)) i0 6)) C (hi_X0_sellBaskets_X0) (29 + i0) (wX_farm cy ad fad (uF σ i0 5 ((sF σ i0 5) + x1)) hi0) rfl 6 (by decide) (List.mem_of_getElem? (i := 2) rfl) rfl dX0_sellBaskets_12 ?_
  refine vv_iload_n C dX0_sellBaskets_15 1 rfl ?_
  refine vv_iadd C dX0_sellBaskets_16 ?_
  refine vv_put (w' := (wX cy ad fad (uF (uF σ i0 5 ((sF σ i0 5) + x1)) i0 6 ((sF (uF σ i0 5 ((sF σ i0 5) + x1)) i0 6) + x1)))) C (hi_X0_sellBaskets_X0) tyX0 tyX0_ok nmX0 (29 + i0) (wX_farm cy ad fad (uF σ i0 5 ((sF σ i0 5) + x1)) hi0) rfl 6 (by decide) (List.mem_of_getElem? (i := 2) rfl) rfl rfl rfl (Nat.le_of_ble_eq_true rfl) dX0_sellBaskets_17 (wX_farmS cy ad fad (uF σ i0 5 ((sF σ i0 5) + x1)) hi0 6 (by decide) _) ?_
  cases hF
  exact hr _ _ dX0_sellBaskets_20
theorem nX0_sellBaskets {i0 : Nat} {x1 : Int32} {σ r : St_} (h : fX0_sellBaskets i0 x1 σ = some r) : sN r = sN σ := by
  unfold fX0_sellBaskets at h
  cases h
  rfl
/-! X0_countDoubtful -/
abbrev rmX0_countDoubtful : Room := { frames := 0, cells := 0, slots := 0, locals := 0 }
theorem hi_X0_countDoubtful_X0 : ∀ w ∈ wsX00, w ∈ wsX0_countDoubtful := fun w h => List.mem_cons_of_mem _ (List.mem_append_right _ h)
def fX0_countDoubtful_17 (i0 : Nat) (σ : St_) : Option St_ := some (uF σ i0 6 0)
def fX0_countDoubtful (i0 : Nat) (x1 : Int32) (σ : St_) : Option St_ := (if x1 = 0 then fX0_countDoubtful_17  i0 σ else fX0_countDoubtful_17  i0 (uF σ i0 7 ((sF σ i0 7) + (sF σ i0 6))))
set_option maxHeartbeats 4000000 in
set_option maxRecDepth 20000 in
theorem vX0_countDoubtful_17 {p : Program} {l : Launch} {e : Env} {s : State} {m : MethodId} {args : Array Value} {below : List Frame} {meth : Method} {c : Code} {D : va_G} {A : Nat → Prop} {Q : State → Prop} {cy : Nat → ClassId} {ad fad : Nat → Nat} {res : St_} (C : vv_X p s m args meth c D (tysW cy) A 2 cX0_countDoubtful RX0 wsX0_countDoubtful) (h0 : eX A s) (hr : rt_V p l e rmX0_countDoubtful s m args below meth c D A 2 Q cX0_countDoubtful (wX cy ad fad res)) : ∀ (i0 : Nat) (σ : St_), (i0 < sN σ) → fX0_countDoubtful_17  i0 σ = some res → vv_ p l e rmX0_countDoubtful s m args below meth c D A 2 Q 0 0 (wX cy ad fad σ) [(0, .ref (fad i0))] 17 [] := by
  intro i0 σ hfl0 hF
  replace hF : some (uF σ i0 6 0) = some res := hF
  refine vv_aload_n C dX0_countDoubtful_17 0 rfl ?_
  refine vv_iconst (v := 0) C dX0_countDoubtful_18 (by decide) ?_
  refine vv_put (w' := (wX cy ad fad (uF σ i0 6 0))) C (hi_X0_countDoubtful_X0) tyX0 tyX0_ok nmX0 (29 + i0) (wX_farm cy ad fad σ hfl0) rfl 6 (by decide) (List.mem_of_getElem? (i := 2) rfl) rfl rfl rfl (Nat.le_of_ble_eq_true rfl) dX0_countDoubtful_19 (wX_farmS cy ad fad σ hfl0 6 (by decide) _) ?_
  cases hF
  exact hr _ _ dX0_countDoubtful_22
set_option maxHeartbeats 4000000 in
set_option maxRecDepth 20000 in
theorem kX0_countDoubtful (l : Launch) (D : va_G) (cy : Nat → ClassId) (ad fad : Nat → Nat) (i0 : Nat) (x1 : Int32) (σ : St_) (res : St_) (hi0 : i0 < sN σ) (hF : fX0_countDoubtful i0 x1 σ = some res) : ct_V l D (tysW cy) eX yX0_countDoubtful wsX0_countDoubtful rmX0_countDoubtful [.ref (fad i0), .int x1] (wX cy ad fad σ) (wX cy ad fad res) := by
  refine mt_V (by decide) rfl (Nat.le_of_ble_eq_true rfl) ?_
  intro p e s m args below meth c A Q C h0 hr
  replace C : vv_X p s m args meth c D (tysW cy) A 2 cX0_countDoubtful RX0 wsX0_countDoubtful := C
  replace hF : (if x1 = 0 then fX0_countDoubtful_17  i0 σ else fX0_countDoubtful_17  i0 (uF σ i0 7 ((sF σ i0 7) + (sF σ i0 6)))) = some res := hF
  refine vv_lv [0, 1] (lv' := [(0, .ref (fad i0)), (1, .int x1)]) rfl ?_
  refine vv_iload_n C dX0_countDoubtful_0 1 rfl ?_
  refine vv_if_eq (tgt := 17) C dX0_countDoubtful_1 (by decide) hF (fun c1 hF => ?_) (fun c1 hF => ?_)
  · refine vv_lv [0] rfl ?_
    exact vX0_countDoubtful_17 C h0 hr  i0 σ hi0 hF
  · refine vv_aload_n C dX0_countDoubtful_4 0 rfl ?_
    refine vv_dup C dX0_countDoubtful_5 rfl ?_
    refine vv_get (v := .int (sF σ i0 7)) C (hi_X0_countDoubtful_X0) (29 + i0) (wX_farm cy ad fad σ hi0) rfl 7 (by decide) (List.mem_of_getElem? (i := 1) rfl) rfl dX0_countDoubtful_6 ?_
    refine vv_aload_n C dX0_countDoubtful_9 0 rfl ?_
    refine vv_get (v := .int (sF σ i0 6)) C (hi_X0_countDoubtful_X0) (29 + i0) (wX_farm cy ad fad σ hi0) rfl 6 (by decide) (List.mem_of_getElem? (i := 2) rfl) rfl dX0_countDoubtful_10 ?_
    refine vv_iadd C dX0_countDoubtful_13 ?_
    refine vv_put (w' := (wX cy ad fad (uF σ i0 7 ((sF σ i0 7) + (sF σ i0 6))))) C (hi_X0_countDoubtful_X0) tyX0 tyX0_ok nmX0 (29 + i0) (wX_farm cy ad fad σ hi0) rfl 7 (by decide) (List.mem_of_getElem? (i := 1) rfl) rfl rfl rfl (Nat.le_of_ble_eq_true rfl) dX0_countDoubtful_14 (wX_farmS cy ad fad σ hi0 7 (by decide) _) ?_
    refine vv_lv [0] rfl ?_
    exact vX0_countDoubtful_17 C h0 hr  i0 (uF σ i0 7 ((sF σ i0 7) + (sF σ i0 6))) hi0 hF
theorem nX0_countDoubtful {i0 : Nat} {x1 : Int32} {σ r : St_} (h : fX0_countDoubtful i0 x1 σ = some r) : sN r = sN σ := by
  unfold fX0_countDoubtful fX0_countDoubtful_17 at h
  split at h <;> cases h <;> rfl
/-! X0_changeStep -/
abbrev rmX0_changeStep : Room := { frames := 2, cells := 0, slots := 0, locals := 42 }
theorem hi_X0_changeStep_X0 : ∀ w ∈ wsX00, w ∈ wsX0_changeStep := fun w h => List.mem_cons_of_mem _ (List.mem_append_left _ (List.mem_append_right _ h))
def fX0_changeStep (i0 : Nat) (x1 : Int32) (σ : St_) : Option St_ := (bn_ (fX2_number 2 σ) fun r1 => (if x1 < r1 then (if (sF σ i0 3) ≤ 0 then some σ else some (uF σ i0 3 ((sF σ i0 3) - 1))) else some (uF σ i0 3 ((sF σ i0 3) + 1))))
set_option maxHeartbeats 4000000 in
set_option maxRecDepth 20000 in
theorem kX0_changeStep (l : Launch) (D : va_G) (cy : Nat → ClassId) (ad fad : Nat → Nat) (i0 : Nat) (x1 : Int32) (σ : St_) (res : St_) (hi0 : i0 < sN σ) (hF : fX0_changeStep i0 x1 σ = some res) : ct_V l D (tysW cy) eX yX0_changeStep wsX0_changeStep rmX0_changeStep [.ref (fad i0), .int x1, .ref (ad 25)] (wX cy ad fad σ) (wX cy ad fad res) := by
  refine mt_V (by decide) rfl (Nat.le_of_ble_eq_true rfl) ?_
  intro p e s m args below meth c A Q C h0 hr
  replace C : vv_X p s m args meth c D (tysW cy) A 3 cX0_changeStep RX0 wsX0_changeStep := C
  replace hF : (bn_ (fX2_number 2 σ) fun r1 => (if x1 < r1 then (if (sF σ i0 3) ≤ 0 then some σ else some (uF σ i0 3 ((sF σ i0 3) - 1))) else some (uF σ i0 3 ((sF σ i0 3) + 1)))) = some res := hF
  refine vv_lv [0, 1, 2] (lv' := [(0, .ref (fad i0)), (1, .int x1), (2, .ref (ad 25))]) rfl ?_
  refine vv_iload_n C dX0_changeStep_0 1 rfl ?_
  refine vv_aload_n C dX0_changeStep_1 2 rfl ?_
  refine vv_iconst (v := 2) C dX0_changeStep_2 (by decide) ?_
  refine vv_callVi (fun r1 => r1) (fun r1 => (wX cy ad fad σ)) C eX_ok h0 [.int 2] [.int x1] 1 hF (fun r1 hr1 => kX2_number l D cy ad fad 2 σ r1  hr1) gX0_changeStep_X2_number rfl rfl rfl (by decide +kernel) ⟨by decide, by decide⟩ 25 (wX_g25 cy ad fad _) rfl rfl rfl (Nat.le_of_ble_eq_true rfl) dX0_changeStep_3 ⟨by decide, by decide⟩ (fun r1 hqr1 hF => ?_)
  refine vv_icmp_lt (tgt := 22) C dX0_changeStep_6 (by decide) hF (fun c3 hF => ?_) (fun c3 hF => ?_)
  · refine vv_aload_n C dX0_changeStep_22 0 rfl ?_
    refine vv_get (v := .int (sF σ i0 3)) C (hi_X0_changeStep_X0) (29 + i0) (wX_farm cy ad fad σ hi0) rfl 3 (by decide) (List.mem_of_getElem? (i := 1) rfl) rfl dX0_changeStep_23 ?_
    refine vv_if_le (tgt := 39) C dX0_changeStep_26 (by decide) hF (fun c2 hF => ?_) (fun c2 hF => ?_)
    · cases hF
      exact hr _ _ dX0_changeStep_39
    · refine vv_aload_n C dX0_changeStep_29 0 rfl ?_
      refine vv_dup C dX0_changeStep_30 rfl ?_
      refine vv_get (v := .int (sF σ i0 3)) C (hi_X0_changeStep_X0) (29 + i0) (wX_farm cy ad fad σ hi0) rfl 3 (by decide) (List.mem_of_getElem? (i := 1) rfl) rfl dX0_changeStep_31 ?_
      refine vv_iconst (v := 1) C dX0_changeStep_34 (by decide) ?_
      refine vv_isub C dX0_changeStep_35 ?_
      refine vv_put (w' := (wX cy ad fad (uF σ i0 3 ((sF σ i0 3) - 1)))) C (hi_X0_changeStep_X0) tyX0 tyX0_ok nmX0 (29 + i0) (wX_farm cy ad fad σ hi0) rfl 3 (by decide) (List.mem_of_getElem? (i := 1) rfl) rfl rfl rfl (Nat.le_of_ble_eq_true rfl) dX0_changeStep_36 (wX_farmS cy ad fad σ hi0 3 (by decide) _) ?_
      cases hF
      exact hr _ _ dX0_changeStep_39
  · refine vv_aload_n C dX0_changeStep_9 0 rfl ?_
    refine vv_dup C dX0_changeStep_10 rfl ?_
    refine vv_get (v := .int (sF σ i0 3)) C (hi_X0_changeStep_X0) (29 + i0) (wX_farm cy ad fad σ hi0) rfl 3 (by decide) (List.mem_of_getElem? (i := 1) rfl) rfl dX0_changeStep_11 ?_
    refine vv_iconst (v := 1) C dX0_changeStep_14 (by decide) ?_
    refine vv_iadd C dX0_changeStep_15 ?_
    refine vv_put (w' := (wX cy ad fad (uF σ i0 3 ((sF σ i0 3) + 1)))) C (hi_X0_changeStep_X0) tyX0 tyX0_ok nmX0 (29 + i0) (wX_farm cy ad fad σ hi0) rfl 3 (by decide) (List.mem_of_getElem? (i := 1) rfl) rfl rfl rfl (Nat.le_of_ble_eq_true rfl) dX0_changeStep_16 (wX_farmS cy ad fad σ hi0 3 (by decide) _) ?_
    refine vv_goto (tgt := 39) C dX0_changeStep_19 (by decide) ?_
    cases hF
    exact hr _ _ dX0_changeStep_39
theorem nX0_changeStep {i0 : Nat} {x1 : Int32} {σ r : St_} (h : fX0_changeStep i0 x1 σ = some r) : sN r = sN σ := by
  unfold fX0_changeStep at h
  obtain ⟨a, -, h⟩ := bn_some h
  split at h
  · split at h <;> cases h <;> rfl
  · cases h
    rfl
/-! X0_goOn -/
abbrev rmX0_goOn : Room := { frames := 3, cells := 0, slots := 0, locals := 64 }
theorem hi_X0_goOn_X0 : ∀ w ∈ wsX00, w ∈ wsX0_goOn := fun w h => List.mem_cons_of_mem _ (List.mem_append_left _ (List.mem_append_right _ h))
def fX0_goOn_41 (i0 : Nat) (σ : St_) : Option St_ := (bn_ (fX2_number 4 (uF (uF σ i0 2 0) i0 3 0)) fun r8 => some (uF (uF (uF σ i0 2 0) i0 3 0) i0 4 r8))
def fX0_goOn_74 (t0 : Int32) (u1 : Nat) (σ : St_) : Option St_ := (gz_ t0 (some (uF σ u1 2 t0)))
def fX0_goOn (i0 : Nat) (x1 : Int32) (x2 : Int32) (σ : St_) : Option St_ := (bn_ (fX0_isOut i0 σ) fun r1 => (if r1 = 0 then (bn_ (fX0_changeStep i0 x1 σ) fun r2 => (bn_ (fX2_number 3 r2) fun r3 => (if r3 ≤ x1 then fX0_goOn_41  i0 r2 else (if (sF r2 i0 3) < 3 then (if x2 < 2 then fX0_goOn_74  0 i0 r2 else fX0_goOn_74  1 i0 r2) else fX0_goOn_41  i0 r2)))) else some (uF σ i0 4 ((sF σ i0 4) - 1))))
set_option maxHeartbeats 4000000 in
set_option maxRecDepth 20000 in
theorem vX0_goOn_41 {p : Program} {l : Launch} {e : Env} {s : State} {m : MethodId} {args : Array Value} {below : List Frame} {meth : Method} {c : Code} {D : va_G} {A : Nat → Prop} {Q : State → Prop} {cy : Nat → ClassId} {ad fad : Nat → Nat} {res : St_} (C : vv_X p s m args meth c D (tysW cy) A 4 cX0_goOn RX0 wsX0_goOn) (h0 : eX A s) (hr : rt_V p l e rmX0_goOn s m args below meth c D A 4 Q cX0_goOn (wX cy ad fad res)) : ∀ (i0 : Nat) (σ : St_), (i0 < sN σ) → fX0_goOn_41  i0 σ = some res → vv_ p l e rmX0_goOn s m args below meth c D A 4 Q 0 0 (wX cy ad fad σ) [(0, .ref (fad i0)), (3, .ref (ad 25))] 41 [] := by
  intro i0 σ hfl0 hF
  replace hF : (bn_ (fX2_number 4 (uF (uF σ i0 2 0) i0 3 0)) fun r8 => some (uF (uF (uF σ i0 2 0) i0 3 0) i0 4 r8)) = some res := hF
  refine vv_aload_n C dX0_goOn_41 0 rfl ?_
  refine vv_iconst (v := 0) C dX0_goOn_42 (by decide) ?_
  refine vv_put (w' := (wX cy ad fad (uF σ i0 2 0))) C (hi_X0_goOn_X0) tyX0 tyX0_ok nmX0 (29 + i0) (wX_farm cy ad fad σ hfl0) rfl 2 (by decide) (List.mem_of_getElem? (i := 3) rfl) rfl (by decide +kernel) (by decide +kernel) (Nat.le_of_ble_eq_true rfl) dX0_goOn_43 (wX_farmS cy ad fad σ hfl0 2 (by decide) _) ?_
  refine vv_aload_n C dX0_goOn_46 0 rfl ?_
  refine vv_iconst (v := 0) C dX0_goOn_47 (by decide) ?_
  refine vv_put (w' := (wX cy ad fad (uF (uF σ i0 2 0) i0 3 0))) C (hi_X0_goOn_X0) tyX0 tyX0_ok nmX0 (29 + i0) (wX_farm cy ad fad (uF σ i0 2 0) hfl0) rfl 3 (by decide) (List.mem_of_getElem? (i := 2) rfl) rfl rfl rfl (Nat.le_of_ble_eq_true rfl) dX0_goOn_48 (wX_farmS cy ad fad (uF σ i0 2 0) hfl0 3 (by decide) _) ?_
  refine vv_aload_n C dX0_goOn_51 0 rfl ?_
  refine vv_aload_n C dX0_goOn_52 1 rfl ?_
  refine vv_iconst (v := 4) C dX0_goOn_53 (by decide) ?_
  refine vv_callVi (fun r8 => r8) (fun r8 => (wX cy ad fad (uF (uF σ i0 2 0) i0 3 0))) C eX_ok h0 [.int 4] [.ref (fad i0)] 1 hF (fun r8 hr8 => kX2_number l D cy ad fad 4 (uF (uF σ i0 2 0) i0 3 0) r8  hr8) gX0_goOn_X2_number rfl rfl rfl (by decide +kernel) ⟨by decide, by decide⟩ 25 (wX_g25 cy ad fad _) rfl rfl rfl (Nat.le_of_ble_eq_true rfl) dX0_goOn_54 ⟨by decide, by decide⟩ (fun r8 hqr8 hF => ?_)
  refine vv_put (w' := (wX cy ad fad (uF (uF (uF σ i0 2 0) i0 3 0) i0 4 r8))) C (hi_X0_goOn_X0) tyX0 tyX0_ok nmX0 (29 + i0) (wX_farm cy ad fad (uF (uF σ i0 2 0) i0 3 0) hfl0) rfl 4 (by decide) (List.mem_of_getElem? (i := 1) rfl) rfl rfl rfl (Nat.le_of_ble_eq_true rfl) dX0_goOn_57 (wX_farmS cy ad fad (uF (uF σ i0 2 0) i0 3 0) hfl0 4 (by decide) _) ?_
  refine vv_goto (tgt := 77) C dX0_goOn_60 (by decide) ?_
  cases hF
  exact hr _ _ dX0_goOn_77
set_option maxHeartbeats 4000000 in
set_option maxRecDepth 20000 in
theorem vX0_goOn_74 {p : Program} {l : Launch} {e : Env} {s : State} {m : MethodId} {args : Array Value} {below : List Frame} {meth : Method} {c : Code} {D : va_G} {A : Nat → Prop} {Q : State → Prop} {cy : Nat → ClassId} {ad fad : Nat → Nat} {res : St_} (C : vv_X p s m args meth c D (tysW cy) A 4 cX0_goOn RX0 wsX0_goOn) (h0 : eX A s) (hr : rt_V p l e rmX0_goOn s m args below meth c D A 4 Q cX0_goOn (wX cy ad fad res)) : ∀ (t0 : Int32) (u1 : Nat) (σ : St_), (u1 < sN σ) → fX0_goOn_74  t0 u1 σ = some res → vv_ p l e rmX0_goOn s m args below meth c D A 4 Q 0 0 (wX cy ad fad σ) [] 74 [.int t0, .ref (fad u1)] := by
  intro t0 u1 σ hfs1 hF
  replace hF : (gz_ t0 (some (uF σ u1 2 t0))) = some res := hF
  obtain ⟨hz, hF⟩ := gz_some hF
  refine vv_put (w' := (wX cy ad fad (uF σ u1 2 t0))) C (hi_X0_goOn_X0) tyX0 tyX0_ok nmX0 (29 + u1) (wX_farm cy ad fad σ hfs1) rfl 2 (by decide) (List.mem_of_getElem? (i := 3) rfl) rfl (gz_nar hz) (gz_fit hz) (Nat.le_of_ble_eq_true rfl) dX0_goOn_74 (wX_farmS cy ad fad σ hfs1 2 (by decide) _) ?_
  cases hF
  exact hr _ _ dX0_goOn_77
set_option maxHeartbeats 4000000 in
set_option maxRecDepth 20000 in
theorem kX0_goOn (l : Launch) (D : va_G) (cy : Nat → ClassId) (ad fad : Nat → Nat) (i0 : Nat) (x1 : Int32) (x2 : Int32) (σ : St_) (res : St_) (hi0 : i0 < sN σ) (hF : fX0_goOn i0 x1 x2 σ = some res) : ct_V l D (tysW cy) eX yX0_goOn wsX0_goOn rmX0_goOn [.ref (fad i0), .int x1, .int x2, .ref (ad 25)] (wX cy ad fad σ) (wX cy ad fad res) := by
  refine mt_V (by decide) rfl (Nat.le_of_ble_eq_true rfl) ?_
  intro p e s m args below meth c A Q C h0 hr
  replace C : vv_X p s m args meth c D (tysW cy) A 4 cX0_goOn RX0 wsX0_goOn := C
  replace hF : (bn_ (fX0_isOut i0 σ) fun r1 => (if r1 = 0 then (bn_ (fX0_changeStep i0 x1 σ) fun r2 => (bn_ (fX2_number 3 r2) fun r3 => (if r3 ≤ x1 then fX0_goOn_41  i0 r2 else (if (sF r2 i0 3) < 3 then (if x2 < 2 then fX0_goOn_74  0 i0 r2 else fX0_goOn_74  1 i0 r2) else fX0_goOn_41  i0 r2)))) else some (uF σ i0 4 ((sF σ i0 4) - 1)))) = some res := hF
  refine vv_lv [0, 1, 2, 3] (lv' := [(0, .ref (fad i0)), (1, .int x1), (2, .int x2), (3, .ref (ad 25))]) rfl ?_
  refine vv_aload_n C dX0_goOn_0 0 rfl ?_
  refine vv_callVi (fun r1 => r1) (fun r1 => (wX cy ad fad σ)) C eX_ok h0 [] [] 0 hF (fun r1 hr1 => kX0_isOut l D cy ad fad i0 σ r1 hi0 hr1) gX0_goOn_X0_isOut rfl rfl rfl (by decide +kernel) ⟨by decide, by decide⟩ (29 + i0) (wX_farm cy ad fad σ hi0) rfl rfl rfl (Nat.le_of_ble_eq_true rfl) dX0_goOn_1 ⟨by decide, by decide⟩ (fun r1 hqr1 hF => ?_)
  refine vv_if_eq (tgt := 18) C dX0_goOn_4 (by decide) hF (fun c7 hF => ?_) (fun c7 hF => ?_)
  · refine vv_aload_n C dX0_goOn_18 0 rfl ?_
    refine vv_iload_n C dX0_goOn_19 1 rfl ?_
    refine vv_aload_n C dX0_goOn_20 3 rfl ?_
    refine vv_callVv  (fun r2 => (wX cy ad fad r2)) C eX_ok h0 [.int x1, .ref (ad 25)] [] 2 hF (fun r2 hr2 => kX0_changeStep l D cy ad fad i0 x1 σ r2 hi0 hr2) gX0_goOn_X0_changeStep rfl rfl rfl (by decide +kernel) ⟨by decide, by decide⟩ (29 + i0) (wX_farm cy ad fad σ hi0) rfl rfl rfl (Nat.le_of_ble_eq_true rfl) dX0_goOn_21 ⟨by decide, by decide⟩ (fun r2 hqr2 hF => ?_)
    have hi0_r2 : i0 < sN r2 := by rw [nX0_changeStep hqr2]; exact hi0
    refine vv_iload_n C dX0_goOn_24 1 rfl ?_
    refine vv_aload_n C dX0_goOn_25 3 rfl ?_
    refine vv_iconst (v := 3) C dX0_goOn_26 (by decide) ?_
    refine vv_callVi (fun r3 => r3) (fun r3 => (wX cy ad fad r2)) C eX_ok h0 [.int 3] [.int x1] 1 hF (fun r3 hr3 => kX2_number l D cy ad fad 3 r2 r3  hr3) gX0_goOn_X2_number rfl rfl rfl (by decide +kernel) ⟨by decide, by decide⟩ 25 (wX_g25 cy ad fad _) rfl rfl rfl (Nat.le_of_ble_eq_true rfl) dX0_goOn_27 ⟨by decide, by decide⟩ (fun r3 hqr3 hF => ?_)
    refine vv_icmp_ge (tgt := 41) C dX0_goOn_30 (by decide) hF (fun c6 hF => ?_) (fun c6 hF => ?_)
    · refine vv_lv [0, 3] rfl ?_
      exact vX0_goOn_41 C h0 hr  i0 r2 hi0_r2 hF
    · refine vv_aload_n C dX0_goOn_33 0 rfl ?_
      refine vv_get (v := .int (sF r2 i0 3)) C (hi_X0_goOn_X0) (29 + i0) (wX_farm cy ad fad r2 hi0_r2) rfl 3 (by decide) (List.mem_of_getElem? (i := 2) rfl) rfl dX0_goOn_34 ?_
      refine vv_iconst (v := 3) C dX0_goOn_37 (by decide) ?_
      refine vv_icmp_lt (tgt := 63) C dX0_goOn_38 (by decide) hF (fun c5 hF => ?_) (fun c5 hF => ?_)
      · refine vv_aload_n C dX0_goOn_63 0 rfl ?_
        refine vv_iload_n C dX0_goOn_64 2 rfl ?_
        refine vv_iconst (v := 2) C dX0_goOn_65 (by decide) ?_
        refine vv_icmp_lt (tgt := 73) C dX0_goOn_66 (by decide) hF (fun c4 hF => ?_) (fun c4 hF => ?_)
        · refine vv_iconst (v := 0) C dX0_goOn_73 (by decide) ?_
          refine vv_lv [] rfl ?_
          exact vX0_goOn_74 C h0 hr  0 i0 r2 hi0_r2 hF
        · refine vv_iconst (v := 1) C dX0_goOn_69 (by decide) ?_
          refine vv_goto (tgt := 74) C dX0_goOn_70 (by decide) ?_
          refine vv_lv [] rfl ?_
          exact vX0_goOn_74 C h0 hr  1 i0 r2 hi0_r2 hF
      · refine vv_lv [0, 3] rfl ?_
        exact vX0_goOn_41 C h0 hr  i0 r2 hi0_r2 hF
  · refine vv_aload_n C dX0_goOn_7 0 rfl ?_
    refine vv_dup C dX0_goOn_8 rfl ?_
    refine vv_get (v := .int (sF σ i0 4)) C (hi_X0_goOn_X0) (29 + i0) (wX_farm cy ad fad σ hi0) rfl 4 (by decide) (List.mem_of_getElem? (i := 1) rfl) rfl dX0_goOn_9 ?_
    refine vv_iconst (v := 1) C dX0_goOn_12 (by decide) ?_
    refine vv_isub C dX0_goOn_13 ?_
    refine vv_put (w' := (wX cy ad fad (uF σ i0 4 ((sF σ i0 4) - 1)))) C (hi_X0_goOn_X0) tyX0 tyX0_ok nmX0 (29 + i0) (wX_farm cy ad fad σ hi0) rfl 4 (by decide) (List.mem_of_getElem? (i := 1) rfl) rfl rfl rfl (Nat.le_of_ble_eq_true rfl) dX0_goOn_14 (wX_farmS cy ad fad σ hi0 4 (by decide) _) ?_
    cases hF
    exact hr _ _ dX0_goOn_17
theorem nX0_goOn {i0 : Nat} {x1 x2 : Int32} {σ r : St_} (h : fX0_goOn i0 x1 x2 σ = some r) : sN r = sN σ := by
  unfold fX0_goOn fX0_goOn_41 fX0_goOn_74 at h
  obtain ⟨a, -, h⟩ := bn_some h
  split at h
  · obtain ⟨r2, h2, h⟩ := bn_some h
    rw [← nX0_changeStep h2]
    obtain ⟨a3, -, h⟩ := bn_some h
    split at h
    · obtain ⟨_, -, h⟩ := bn_some h
      cases h
      rfl
    · split at h
      · split at h
        · obtain ⟨-, h⟩ := gz_some h
          cases h
          rfl
        · obtain ⟨-, h⟩ := gz_some h
          cases h
          rfl
      · obtain ⟨_, -, h⟩ := bn_some h
        cases h
        rfl
  · cases h
    rfl
end
section
/-! X4_areLaid -/
abbrev rmX4_areLaid : Room := { frames := 0, cells := 0, slots := 0, locals := 0 }
theorem hi_X4_areLaid_X4 : ∀ w ∈ wsX40, w ∈ wsX4_areLaid := fun w h => List.mem_cons_of_mem _ (List.mem_append_right _ h)
def fX4_areLaid (σ : St_) : Option Int32 := (gz_ (sS σ 2) (some (sS σ 2)))
set_option maxHeartbeats 4000000 in
set_option maxRecDepth 20000 in
theorem kX4_areLaid (l : Launch) (D : va_G) (cy : Nat → ClassId) (ad fad : Nat → Nat) (σ : St_) (res : Int32)  (hF : fX4_areLaid σ = some res) : ct_I l D (tysW cy) eX yX4_areLaid wsX4_areLaid rmX4_areLaid [.ref (ad 26)] (wX cy ad fad σ) res (wX cy ad fad σ) := by
  refine mt_I (by decide) rfl (Nat.le_of_ble_eq_true rfl) ?_
  intro p e s m args below meth c A Q C h0 hr
  replace C : vv_X p s m args meth c D (tysW cy) A 1 cX4_areLaid RX4 wsX4_areLaid := C
  replace hF : (gz_ (sS σ 2) (some (sS σ 2))) = some res := hF
  refine vv_lv [0] (lv' := [(0, .ref (ad 26))]) rfl ?_
  refine vv_aload_n C dX4_areLaid_0 0 rfl ?_
  refine vv_get (v := .int (sS σ 2)) C (hi_X4_areLaid_X4) 26 (wX_g26 cy ad fad _) rfl 3 (by decide) (List.mem_of_getElem? (i := 1) rfl) rfl dX4_areLaid_1 ?_
  obtain ⟨hz, hF⟩ := gz_some hF
  cases hF
  exact hr _ _ dX4_areLaid_4 (gz_nar hz)
/-! X4_setLaid -/
abbrev rmX4_setLaid : Room := { frames := 0, cells := 0, slots := 0, locals := 0 }
theorem hi_X4_setLaid_X4 : ∀ w ∈ wsX40, w ∈ wsX4_setLaid := fun w h => List.mem_cons_of_mem _ (List.mem_append_right _ h)
def fX4_setLaid (σ : St_) : Option St_ := some (uS σ 2 1)
set_option maxHeartbeats 4000000 in
set_option maxRecDepth 20000 in
theorem kX4_setLaid (l : Launch) (D : va_G) (cy : Nat → ClassId) (ad fad : Nat → Nat) (σ : St_) (res : St_)  (hF : fX4_setLaid σ = some res) : ct_V l D (tysW cy) eX yX4_setLaid wsX4_setLaid rmX4_setLaid [.ref (ad 26)] (wX cy ad fad σ) (wX cy ad fad res) := by
  refine mt_V (by decide) rfl (Nat.le_of_ble_eq_true rfl) ?_
  intro p e s m args below meth c A Q C h0 hr
  replace C : vv_X p s m args meth c D (tysW cy) A 1 cX4_setLaid RX4 wsX4_setLaid := C
  replace hF : some (uS σ 2 1) = some res := hF
  refine vv_lv [0] (lv' := [(0, .ref (ad 26))]) rfl ?_
  refine vv_aload_n C dX4_setLaid_0 0 rfl ?_
  refine vv_iconst (v := 1) C dX4_setLaid_1 (by decide) ?_
  refine vv_put (w' := (wX cy ad fad (uS σ 2 1))) C (hi_X4_setLaid_X4) tyX4 tyX4_ok nmX4 26 (wX_g26 cy ad fad _) rfl 3 (by decide) (List.mem_of_getElem? (i := 1) rfl) rfl (by decide +kernel) (by decide +kernel) (Nat.le_of_ble_eq_true rfl) dX4_setLaid_2 (wX_s2 _ _ _ _ _) ?_
  cases hF
  exact hr _ _ dX4_setLaid_5
/-! X4_setVisitors -/
abbrev rmX4_setVisitors : Room := { frames := 0, cells := 0, slots := 0, locals := 0 }
theorem hi_X4_setVisitors_X4 : ∀ w ∈ wsX40, w ∈ wsX4_setVisitors := fun w h => List.mem_cons_of_mem _ (List.mem_append_right _ h)
def fX4_setVisitors (x1 : Int32) (x2 : Int32) (σ : St_) : Option St_ := (gd_ x1 10 fun j1 => some (uM σ 3 j1 x2))
set_option maxHeartbeats 4000000 in
set_option maxRecDepth 20000 in
theorem kX4_setVisitors (l : Launch) (D : va_G) (cy : Nat → ClassId) (ad fad : Nat → Nat) (x1 : Int32) (x2 : Int32) (σ : St_) (res : St_)  (hF : fX4_setVisitors x1 x2 σ = some res) : ct_V l D (tysW cy) eX yX4_setVisitors wsX4_setVisitors rmX4_setVisitors [.ref (ad 26), .int x1, .int x2] (wX cy ad fad σ) (wX cy ad fad res) := by
  refine mt_V (by decide) rfl (Nat.le_of_ble_eq_true rfl) ?_
  intro p e s m args below meth c A Q C h0 hr
  replace C : vv_X p s m args meth c D (tysW cy) A 3 cX4_setVisitors RX4 wsX4_setVisitors := C
  replace hF : (gd_ x1 10 fun j1 => some (uM σ 3 j1 x2)) = some res := hF
  refine vv_lv [0, 1, 2] (lv' := [(0, .ref (ad 26)), (1, .int x1), (2, .int x2)]) rfl ?_
  refine vv_aload_n C dX4_setVisitors_0 0 rfl ?_
  refine vv_get (v := .ref (ad 3)) C (hi_X4_setVisitors_X4) 26 (wX_g26 cy ad fad _) rfl 0 (by decide) (List.mem_of_getElem? (i := 1) rfl) rfl dX4_setVisitors_1 ?_
  refine vv_iload_n C dX4_setVisitors_4 1 rfl ?_
  refine vv_iload_n C dX4_setVisitors_5 2 rfl ?_
  refine vv_iast (w' := fun j1 => (wX cy ad fad (uM σ 3 j1 x2))) C 3 0 (wX_g3 cy ad fad _) (tysW_0 cy) hF dX4_setVisitors_6 (fun _ => wX_a3 _ _ _ _ _) (fun j1 hj1 hF => ?_)
  cases hF
  exact hr _ _ dX4_setVisitors_7
/-! X4_isVisitor -/
abbrev rmX4_isVisitor : Room := { frames := 1, cells := 0, slots := 0, locals := 21 }
theorem hi_X4_isVisitor_X4 : ∀ w ∈ wsX40, w ∈ wsX4_isVisitor := fun w h => List.mem_cons_of_mem _ (List.mem_append_right _ h)
def fX4_isVisitor (x1 : Int32) (x2 : Int32) (σ : St_) : Option Int32 := (gd_ x2 10 fun j1 => (bn_ (fX5_hasBit (sM σ 3 j1) x1) fun r2 => (gz_ r2 (some r2))))
set_option maxHeartbeats 4000000 in
set_option maxRecDepth 20000 in
theorem kX4_isVisitor (l : Launch) (D : va_G) (cy : Nat → ClassId) (ad fad : Nat → Nat) (x1 : Int32) (x2 : Int32) (σ : St_) (res : Int32)  (hF : fX4_isVisitor x1 x2 σ = some res) : ct_I l D (tysW cy) eX yX4_isVisitor wsX4_isVisitor rmX4_isVisitor [.ref (ad 26), .int x1, .int x2] (wX cy ad fad σ) res (wX cy ad fad σ) := by
  refine mt_I (by decide) rfl (Nat.le_of_ble_eq_true rfl) ?_
  intro p e s m args below meth c A Q C h0 hr
  replace C : vv_X p s m args meth c D (tysW cy) A 3 cX4_isVisitor RX4 wsX4_isVisitor := C
  replace hF : (gd_ x2 10 fun j1 => (bn_ (fX5_hasBit (sM σ 3 j1) x1) fun r2 => (gz_ r2 (some r2)))) = some res := hF
  refine vv_lv [0, 1, 2] (lv' := [(0, .ref (ad 26)), (1, .int x1), (2, .int x2)]) rfl ?_
  refine vv_aload_n C dX4_isVisitor_0 0 rfl ?_
  refine vv_get (v := .ref (ad 3)) C (hi_X4_isVisitor_X4) 26 (wX_g26 cy ad fad _) rfl 0 (by decide) (List.mem_of_getElem? (i := 1) rfl) rfl dX4_isVisitor_1 ?_
  refine vv_iload_n C dX4_isVisitor_4 2 rfl ?_
  refine vv_iald C 3 0 (wX_g3 cy ad fad _) (tysW_0 cy) hF dX4_isVisitor_5 (fun j1 hj1 hF => ?_)
  refine vv_iload_n C dX4_isVisitor_6 1 rfl ?_
  refine vv_callNi (fun r2 => r2) (fun r2 => (wX cy ad fad σ)) C eX_ok h0 [.int (sM σ 3 j1), .int x1] [] 2 hF (fun r2 hr2 => kX5_hasBit l D (tysW cy) eX_ok (wX cy ad fad σ) (sM σ 3 j1) x1 r2  hr2) gX4_isVisitor_X5_hasBit_n27 (eX_nX4_27 h0) (List.mem_of_getElem? (i := 3) rfl) (List.mem_of_getElem? (i := 2) rfl) rfl rfl rfl (by decide +kernel) ⟨by decide, by decide⟩ rfl rfl (Nat.le_of_ble_eq_true rfl) dX4_isVisitor_7 ⟨by decide, by decide⟩ (fun r2 hqr2 hF => ?_)
  obtain ⟨hz, hF⟩ := gz_some hF
  cases hF
  exact hr _ _ dX4_isVisitor_10 (gz_nar hz)
/-! X4_wasVisitor -/
abbrev rmX4_wasVisitor : Room := { frames := 1, cells := 0, slots := 0, locals := 21 }
theorem hi_X4_wasVisitor_X4 : ∀ w ∈ wsX40, w ∈ wsX4_wasVisitor := fun w h => List.mem_cons_of_mem _ (List.mem_append_right _ h)
def fX4_wasVisitor (x1 : Int32) (x2 : Int32) (σ : St_) : Option Int32 := (gd_ x2 10 fun j1 => (bn_ (fX5_hasBit (sM σ 4 j1) x1) fun r2 => (gz_ r2 (some r2))))
set_option maxHeartbeats 4000000 in
set_option maxRecDepth 20000 in
theorem kX4_wasVisitor (l : Launch) (D : va_G) (cy : Nat → ClassId) (ad fad : Nat → Nat) (x1 : Int32) (x2 : Int32) (σ : St_) (res : Int32)  (hF : fX4_wasVisitor x1 x2 σ = some res) : ct_I l D (tysW cy) eX yX4_wasVisitor wsX4_wasVisitor rmX4_wasVisitor [.ref (ad 26), .int x1, .int x2] (wX cy ad fad σ) res (wX cy ad fad σ) := by
  refine mt_I (by decide) rfl (Nat.le_of_ble_eq_true rfl) ?_
  intro p e s m args below meth c A Q C h0 hr
  replace C : vv_X p s m args meth c D (tysW cy) A 3 cX4_wasVisitor RX4 wsX4_wasVisitor := C
  replace hF : (gd_ x2 10 fun j1 => (bn_ (fX5_hasBit (sM σ 4 j1) x1) fun r2 => (gz_ r2 (some r2)))) = some res := hF
  refine vv_lv [0, 1, 2] (lv' := [(0, .ref (ad 26)), (1, .int x1), (2, .int x2)]) rfl ?_
  refine vv_aload_n C dX4_wasVisitor_0 0 rfl ?_
  refine vv_get (v := .ref (ad 4)) C (hi_X4_wasVisitor_X4) 26 (wX_g26 cy ad fad _) rfl 1 (by decide) (List.mem_of_getElem? (i := 1) rfl) rfl dX4_wasVisitor_1 ?_
  refine vv_iload_n C dX4_wasVisitor_4 2 rfl ?_
  refine vv_iald C 4 0 (wX_g4 cy ad fad _) (tysW_0 cy) hF dX4_wasVisitor_5 (fun j1 hj1 hF => ?_)
  refine vv_iload_n C dX4_wasVisitor_6 1 rfl ?_
  refine vv_callNi (fun r2 => r2) (fun r2 => (wX cy ad fad σ)) C eX_ok h0 [.int (sM σ 4 j1), .int x1] [] 2 hF (fun r2 hr2 => kX5_hasBit l D (tysW cy) eX_ok (wX cy ad fad σ) (sM σ 4 j1) x1 r2  hr2) gX4_wasVisitor_X5_hasBit_n27 (eX_nX4_27 h0) (List.mem_of_getElem? (i := 3) rfl) (List.mem_of_getElem? (i := 2) rfl) rfl rfl rfl (by decide +kernel) ⟨by decide, by decide⟩ rfl rfl (Nat.le_of_ble_eq_true rfl) dX4_wasVisitor_7 ⟨by decide, by decide⟩ (fun r2 hqr2 hF => ?_)
  obtain ⟨hz, hF⟩ := gz_some hF
  cases hF
  exact hr _ _ dX4_wasVisitor_10 (gz_nar hz)
/-! X4_visitorCount -/
abbrev rmX4_visitorCount : Room := { frames := 1, cells := 0, slots := 0, locals := 20 }
theorem hi_X4_visitorCount_X4 : ∀ w ∈ wsX40, w ∈ wsX4_visitorCount := fun w h => List.mem_cons_of_mem _ (List.mem_append_right _ h)
def fX4_visitorCount (x1 : Int32) (σ : St_) : Option Int32 := (gd_ x1 10 fun j1 => (bn_ (fJ6_bitCount_0f7a4 (sM σ 3 j1)) fun r2 => some r2))
set_option maxHeartbeats 4000000 in
set_option maxRecDepth 20000 in
theorem kX4_visitorCount (l : Launch) (D : va_G) (cy : Nat → ClassId) (ad fad : Nat → Nat) (x1 : Int32) (σ : St_) (res : Int32)  (hF : fX4_visitorCount x1 σ = some res) : ct_I l D (tysW cy) eX yX4_visitorCount wsX4_visitorCount rmX4_visitorCount [.ref (ad 26), .int x1] (wX cy ad fad σ) res (wX cy ad fad σ) := by
  refine mt_I (by decide) rfl (Nat.le_of_ble_eq_true rfl) ?_
  intro p e s m args below meth c A Q C h0 hr
  replace C : vv_X p s m args meth c D (tysW cy) A 2 cX4_visitorCount RX4 wsX4_visitorCount := C
  replace hF : (gd_ x1 10 fun j1 => (bn_ (fJ6_bitCount_0f7a4 (sM σ 3 j1)) fun r2 => some r2)) = some res := hF
  refine vv_lv [0, 1] (lv' := [(0, .ref (ad 26)), (1, .int x1)]) rfl ?_
  refine vv_aload_n C dX4_visitorCount_0 0 rfl ?_
  refine vv_get (v := .ref (ad 3)) C (hi_X4_visitorCount_X4) 26 (wX_g26 cy ad fad _) rfl 0 (by decide) (List.mem_of_getElem? (i := 1) rfl) rfl dX4_visitorCount_1 ?_
  refine vv_iload_n C dX4_visitorCount_4 1 rfl ?_
  refine vv_iald C 3 0 (wX_g3 cy ad fad _) (tysW_0 cy) hF dX4_visitorCount_5 (fun j1 hj1 hF => ?_)
  refine vv_callSi (fun r2 => r2) (fun r2 => (wX cy ad fad σ)) C eX_ok h0 [.int (sM σ 3 j1)] [] 1 hF (fun r2 hr2 => kJ6_bitCount_0f7a4 l D (tysW cy) eX_ok (wX cy ad fad σ) (sM σ 3 j1) r2  hr2) gX4_visitorCount_J6_bitCount_0f7a4 rfl rfl rfl (by decide +kernel) ⟨by decide, by decide⟩ rfl rfl (Nat.le_of_ble_eq_true rfl) dX4_visitorCount_6 ⟨by decide, by decide⟩ (fun r2 hqr2 hF => ?_)
  cases hF
  exact hr _ _ dX4_visitorCount_9 rfl
/-! X4_visitsBy -/
abbrev rmX4_visitsBy : Room := { frames := 2, cells := 0, slots := 0, locals := 43 }
def fX4_visitsBy_4 (σ : St_) : Nat → Int32 → Int32 → Int32 → Option Int32
  | 0, _, _, _ => none
  | n + 1, x1, x2, x3 => (if 10 ≤ x3 then some x2 else (bn_ (fX4_isVisitor x1 x3 σ) fun r1 => (bn_ (fX5_oneIf r1) fun r2 => fX4_visitsBy_4 σ  n x1 (x2 + r2) (x3 + 1))))
def fX4_visitsBy (x1 : Int32) (σ : St_) : Option Int32 := fX4_visitsBy_4 σ  FU_ x1 0 0
set_option maxHeartbeats 4000000 in
set_option maxRecDepth 20000 in
theorem vX4_visitsBy_4 {p : Program} {l : Launch} {e : Env} {s : State} {m : MethodId} {args : Array Value} {below : List Frame} {meth : Method} {c : Code} {D : va_G} {A : Nat → Prop} {Q : State → Prop} {cy : Nat → ClassId} {ad fad : Nat → Nat} {σ : St_} {res : Int32} (C : vv_X p s m args meth c D (tysW cy) A 4 cX4_visitsBy RX4 wsX4_visitsBy) (h0 : eX A s) (hr : rt_I p l e rmX4_visitsBy s m args below meth c D A 4 Q cX4_visitsBy .int (wX cy ad fad σ) res) : ∀ (n : Nat) (x1 : Int32) (x2 : Int32) (x3 : Int32), fX4_visitsBy_4 σ  n x1 x2 x3 = some res → vv_ p l e rmX4_visitsBy s m args below meth c D A 4 Q 0 0 (wX cy ad fad σ) [(0, .ref (ad 26)), (1, .int x1), (2, .int x2), (3, .int x3)] 4 [] := by
  intro n
  induction n with
  | zero =>
    intro x1 x2 x3 hF
    cases (show none = some res from hF)
  | succ n ih =>
    intro x1 x2 x3 hF
    replace hF : (if 10 ≤ x3 then some x2 else (bn_ (fX4_isVisitor x1 x3 σ) fun r1 => (bn_ (fX5_oneIf r1) fun r2 => fX4_visitsBy_4 σ  n x1 (x2 + r2) (x3 + 1)))) = some res := hF
    refine vv_iload_n C dX4_visitsBy_4 3 rfl ?_
    refine vv_bipush (v := 10) C dX4_visitsBy_5 (by decide) ?_
    refine vv_icmp_ge (tgt := 28) C dX4_visitsBy_7 (by decide) hF (fun c3 hF => ?_) (fun c3 hF => ?_)
    · refine vv_iload_n C dX4_visitsBy_28 2 rfl ?_
      cases hF
      exact hr _ _ dX4_visitsBy_29 rfl
    · refine vv_iload_n C dX4_visitsBy_10 2 rfl ?_
      refine vv_aload_n C dX4_visitsBy_11 0 rfl ?_
      refine vv_iload_n C dX4_visitsBy_12 1 rfl ?_
      refine vv_iload_n C dX4_visitsBy_13 3 rfl ?_
      refine vv_callVi (fun r1 => r1) (fun r1 => (wX cy ad fad σ)) C eX_ok h0 [.int x1, .int x3] [.int x2] 2 hF (fun r1 hr1 => kX4_isVisitor l D cy ad fad x1 x3 σ r1  hr1) gX4_visitsBy_X4_isVisitor rfl rfl rfl (by decide +kernel) ⟨by decide, by decide⟩ 26 (wX_g26 cy ad fad _) rfl rfl rfl (Nat.le_of_ble_eq_true rfl) dX4_visitsBy_14 ⟨by decide, by decide⟩ (fun r1 hqr1 hF => ?_)
      refine vv_callNi (fun r2 => r2) (fun r2 => (wX cy ad fad σ)) C eX_ok h0 [.int r1] [.int x2] 1 hF (fun r2 hr2 => kX5_oneIf l D (tysW cy) eX_ok (wX cy ad fad σ) r1 r2  hr2) gX4_visitsBy_X5_oneIf_n40 (eX_nX4_40 h0) (List.mem_of_getElem? (i := 8) rfl) (List.mem_of_getElem? (i := 10) rfl) rfl rfl rfl (by decide +kernel) ⟨by decide, by decide⟩ rfl rfl (Nat.le_of_ble_eq_true rfl) dX4_visitsBy_17 ⟨by decide, by decide⟩ (fun r2 hqr2 hF => ?_)
      refine vv_iadd C dX4_visitsBy_20 ?_
      refine vv_istore_n (lv' := [(2, .int (x2 + r2)), (0, .ref (ad 26)), (1, .int x1), (3, .int x3)]) C dX4_visitsBy_21 (by decide) rfl ?_
      refine vv_iinc (q := 3) (v := x3 + 1) (lv' := [(3, .int (x3 + 1)), (2, .int (x2 + r2)), (0, .ref (ad 26)), (1, .int x1)]) C dX4_visitsBy_22 rfl rfl (by decide) rfl ?_
      refine vv_goto (tgt := 4) C dX4_visitsBy_25 (by decide) ?_
      refine vv_lv [2, 3, 1, 0] rfl ?_
      exact ih x1 (x2 + r2) (x3 + 1)  hF
set_option maxHeartbeats 4000000 in
set_option maxRecDepth 20000 in
theorem kX4_visitsBy (l : Launch) (D : va_G) (cy : Nat → ClassId) (ad fad : Nat → Nat) (x1 : Int32) (σ : St_) (res : Int32)  (hF : fX4_visitsBy x1 σ = some res) : ct_I l D (tysW cy) eX yX4_visitsBy wsX4_visitsBy rmX4_visitsBy [.ref (ad 26), .int x1] (wX cy ad fad σ) res (wX cy ad fad σ) := by
  refine mt_I (by decide) rfl (Nat.le_of_ble_eq_true rfl) ?_
  intro p e s m args below meth c A Q C h0 hr
  replace C : vv_X p s m args meth c D (tysW cy) A 4 cX4_visitsBy RX4 wsX4_visitsBy := C
  replace hF : fX4_visitsBy_4 σ  FU_ x1 0 0 = some res := hF
  refine vv_lv [0, 1] (lv' := [(0, .ref (ad 26)), (1, .int x1)]) rfl ?_
  refine vv_iconst (v := 0) C dX4_visitsBy_0 (by decide) ?_
  refine vv_istore_n (lv' := [(2, .int 0), (0, .ref (ad 26)), (1, .int x1)]) C dX4_visitsBy_1 (by decide) rfl ?_
  refine vv_iconst (v := 0) C dX4_visitsBy_2 (by decide) ?_
  refine vv_istore_n (lv' := [(3, .int 0), (2, .int 0), (0, .ref (ad 26)), (1, .int x1)]) C dX4_visitsBy_3 (by decide) rfl ?_
  refine vv_lv [2, 3, 1, 0] rfl ?_
  exact vX4_visitsBy_4 C h0 hr  FU_ x1 0 0  hF
/-! X4_total -/
abbrev rmX4_total : Room := { frames := 2, cells := 0, slots := 0, locals := 41 }
def fX4_total_4 (σ : St_) : Nat → Int32 → Int32 → Option Int32
  | 0, _, _ => none
  | n + 1, x1, x2 => (if 10 ≤ x2 then some x1 else (bn_ (fX4_visitorCount x2 σ) fun r1 => fX4_total_4 σ  n (x1 + r1) (x2 + 1)))
def fX4_total (σ : St_) : Option Int32 := fX4_total_4 σ  FU_ 0 0
set_option maxHeartbeats 4000000 in
set_option maxRecDepth 20000 in
theorem vX4_total_4 {p : Program} {l : Launch} {e : Env} {s : State} {m : MethodId} {args : Array Value} {below : List Frame} {meth : Method} {c : Code} {D : va_G} {A : Nat → Prop} {Q : State → Prop} {cy : Nat → ClassId} {ad fad : Nat → Nat} {σ : St_} {res : Int32} (C : vv_X p s m args meth c D (tysW cy) A 3 cX4_total RX4 wsX4_total) (h0 : eX A s) (hr : rt_I p l e rmX4_total s m args below meth c D A 3 Q cX4_total .int (wX cy ad fad σ) res) : ∀ (n : Nat) (x1 : Int32) (x2 : Int32), fX4_total_4 σ  n x1 x2 = some res → vv_ p l e rmX4_total s m args below meth c D A 3 Q 0 0 (wX cy ad fad σ) [(0, .ref (ad 26)), (1, .int x1), (2, .int x2)] 4 [] := by
  intro n
  induction n with
  | zero =>
    intro x1 x2 hF
    cases (show none = some res from hF)
  | succ n ih =>
    intro x1 x2 hF
    replace hF : (if 10 ≤ x2 then some x1 else (bn_ (fX4_visitorCount x2 σ) fun r1 => fX4_total_4 σ  n (x1 + r1) (x2 + 1))) = some res := hF
    refine vv_iload_n C dX4_total_4 2 rfl ?_
    refine vv_bipush (v := 10) C dX4_total_5 (by decide) ?_
    refine vv_icmp_ge (tgt := 24) C dX4_total_7 (by decide) hF (fun c2 hF => ?_) (fun c2 hF => ?_)
    · refine vv_iload_n C dX4_total_24 1 rfl ?_
      cases hF
      exact hr _ _ dX4_total_25 rfl
    · refine vv_iload_n C dX4_total_10 1 rfl ?_
      refine vv_aload_n C dX4_total_11 0 rfl ?_
      refine vv_iload_n C dX4_total_12 2 rfl ?_
      refine vv_callVi (fun r1 => r1) (fun r1 => (wX cy ad fad σ)) C eX_ok h0 [.int x2] [.int x1] 1 hF (fun r1 hr1 => kX4_visitorCount l D cy ad fad x2 σ r1  hr1) gX4_total_X4_visitorCount rfl rfl rfl (by decide +kernel) ⟨by decide, by decide⟩ 26 (wX_g26 cy ad fad _) rfl rfl rfl (Nat.le_of_ble_eq_true rfl) dX4_total_13 ⟨by decide, by decide⟩ (fun r1 hqr1 hF => ?_)
      refine vv_iadd C dX4_total_16 ?_
      refine vv_istore_n (lv' := [(1, .int (x1 + r1)), (0, .ref (ad 26)), (2, .int x2)]) C dX4_total_17 (by decide) rfl ?_
      refine vv_iinc (q := 2) (v := x2 + 1) (lv' := [(2, .int (x2 + 1)), (1, .int (x1 + r1)), (0, .ref (ad 26))]) C dX4_total_18 rfl rfl (by decide) rfl ?_
      refine vv_goto (tgt := 4) C dX4_total_21 (by decide) ?_
      refine vv_lv [2, 1, 0] rfl ?_
      exact ih (x1 + r1) (x2 + 1)  hF
set_option maxHeartbeats 4000000 in
set_option maxRecDepth 20000 in
theorem kX4_total (l : Launch) (D : va_G) (cy : Nat → ClassId) (ad fad : Nat → Nat) (σ : St_) (res : Int32)  (hF : fX4_total σ = some res) : ct_I l D (tysW cy) eX yX4_total wsX4_total rmX4_total [.ref (ad 26)] (wX cy ad fad σ) res (wX cy ad fad σ) := by
  refine mt_I (by decide) rfl (Nat.le_of_ble_eq_true rfl) ?_
  intro p e s m args below meth c A Q C h0 hr
  replace C : vv_X p s m args meth c D (tysW cy) A 3 cX4_total RX4 wsX4_total := C
  replace hF : fX4_total_4 σ  FU_ 0 0 = some res := hF
  refine vv_lv [0] (lv' := [(0, .ref (ad 26))]) rfl ?_
  refine vv_iconst (v := 0) C dX4_total_0 (by decide) ?_
  refine vv_istore_n (lv' := [(1, .int 0), (0, .ref (ad 26))]) C dX4_total_1 (by decide) rfl ?_
  refine vv_iconst (v := 0) C dX4_total_2 (by decide) ?_
  refine vv_istore_n (lv' := [(2, .int 0), (1, .int 0), (0, .ref (ad 26))]) C dX4_total_3 (by decide) rfl ?_
  refine vv_lv [2, 1, 0] rfl ?_
  exact vX4_total_4 C h0 hr  FU_ 0 0  hF
/-! X4_visitorAt -/
abbrev rmX4_visitorAt : Room := { frames := 2, cells := 0, slots := 0, locals := 43 }
def fX4_visitorAt_33 (σ : St_) (k5 : Int32 → Int32 → Int32 → Int32 → Option Int32) (x1 : Int32) (x2 : Int32) (x3 : Int32) (x4 : Int32) : Option Int32 := k5 x1 x2 x3 (x4 + 1)
def fX4_visitorAt_5 (σ : St_) : Nat → Int32 → Int32 → Int32 → Int32 → Option Int32
  | 0, _, _, _, _ => none
  | n + 1, x1, x2, x3, x4 => (if 10 ≤ x4 then some (-1) else (bn_ (fX4_isVisitor x4 x1 σ) fun r1 => (if r1 = 0 then fX4_visitorAt_33 σ (fX4_visitorAt_5 σ  n) x1 x2 x3 x4 else (if x3 = x2 then some x4 else fX4_visitorAt_33 σ (fX4_visitorAt_5 σ  n) x1 x2 (x3 + 1) x4))))
def fX4_visitorAt (x1 : Int32) (x2 : Int32) (σ : St_) : Option Int32 := fX4_visitorAt_5 σ  FU_ x1 x2 0 0
set_option maxHeartbeats 4000000 in
set_option maxRecDepth 20000 in
theorem vX4_visitorAt_33 {p : Program} {l : Launch} {e : Env} {s : State} {m : MethodId} {args : Array Value} {below : List Frame} {meth : Method} {c : Code} {D : va_G} {A : Nat → Prop} {Q : State → Prop} {cy : Nat → ClassId} {ad fad : Nat → Nat} {k5 : Int32 → Int32 → Int32 → Int32 → Option Int32} {σ : St_} {res : Int32} (C : vv_X p s m args meth c D (tysW cy) A 5 cX4_visitorAt RX4 wsX4_visitorAt) (h0 : eX A s) (hr : rt_I p l e rmX4_visitorAt s m args below meth c D A 5 Q cX4_visitorAt .int (wX cy ad fad σ) res) (hk5 : ∀ (x1 : Int32) (x2 : Int32) (x3 : Int32) (x4 : Int32), k5 x1 x2 x3 x4 = some res → vv_ p l e rmX4_visitorAt s m args below meth c D A 5 Q 0 0 (wX cy ad fad σ) [(0, .ref (ad 26)), (1, .int x1), (2, .int x2), (3, .int x3), (4, .int x4)] 5 []) : ∀ (x1 : Int32) (x2 : Int32) (x3 : Int32) (x4 : Int32), fX4_visitorAt_33 σ k5 x1 x2 x3 x4 = some res → vv_ p l e rmX4_visitorAt s m args below meth c D A 5 Q 0 0 (wX cy ad fad σ) [(0, .ref (ad 26)), (1, .int x1), (2, .int x2), (3, .int x3), (4, .int x4)] 33 [] := by
  intro x1 x2 x3 x4 hF
  replace hF : k5 x1 x2 x3 (x4 + 1) = some res := hF
  refine vv_iinc (q := 4) (v := x4 + 1) (lv' := [(4, .int (x4 + 1)), (0, .ref (ad 26)), (1, .int x1), (2, .int x2), (3, .int x3)]) C dX4_visitorAt_33 rfl rfl (by decide) rfl ?_
  refine vv_goto (tgt := 5) C dX4_visitorAt_36 (by decide) ?_
  refine vv_lv [1, 2, 3, 4, 0] rfl ?_
  exact hk5 x1 x2 x3 (x4 + 1)  hF
set_option maxHeartbeats 4000000 in
set_option maxRecDepth 20000 in
theorem vX4_visitorAt_5 {p : Program} {l : Launch} {e : Env} {s : State} {m : MethodId} {args : Array Value} {below : List Frame} {meth : Method} {c : Code} {D : va_G} {A : Nat → Prop} {Q : State → Prop} {cy : Nat → ClassId} {ad fad : Nat → Nat} {σ : St_} {res : Int32} (C : vv_X p s m args meth c D (tysW cy) A 5 cX4_visitorAt RX4 wsX4_visitorAt) (h0 : eX A s) (hr : rt_I p l e rmX4_visitorAt s m args below meth c D A 5 Q cX4_visitorAt .int (wX cy ad fad σ) res) : ∀ (n : Nat) (x1 : Int32) (x2 : Int32) (x3 : Int32) (x4 : Int32), fX4_visitorAt_5 σ  n x1 x2 x3 x4 = some res → vv_ p l e rmX4_visitorAt s m args below meth c D A 5 Q 0 0 (wX cy ad fad σ) [(0, .ref (ad 26)), (1, .int x1), (2, .int x2), (3, .int x3), (4, .int x4)] 5 [] := by
  intro n
  induction n with
  | zero =>
    intro x1 x2 x3 x4 hF
    cases (show none = some res from hF)
  | succ n ih =>
    intro x1 x2 x3 x4 hF
    replace hF : (if 10 ≤ x4 then some (-1) else (bn_ (fX4_isVisitor x4 x1 σ) fun r1 => (if r1 = 0 then fX4_visitorAt_33 σ (fX4_visitorAt_5 σ  n) x1 x2 x3 x4 else (if x3 = x2 then some x4 else fX4_visitorAt_33 σ (fX4_visitorAt_5 σ  n) x1 x2 (x3 + 1) x4)))) = some res := hF
    refine vv_iload C dX4_visitorAt_5 4 rfl ?_
    refine vv_bipush (v := 10) C dX4_visitorAt_7 (by decide) ?_
    refine vv_icmp_ge (tgt := 39) C dX4_visitorAt_9 (by decide) hF (fun c4 hF => ?_) (fun c4 hF => ?_)
    · refine vv_iconst (v := (-1)) C dX4_visitorAt_39 (by decide) ?_
      cases hF
      exact hr _ _ dX4_visitorAt_40 rfl
    · refine vv_aload_n C dX4_visitorAt_12 0 rfl ?_
      refine vv_iload C dX4_visitorAt_13 4 rfl ?_
      refine vv_iload_n C dX4_visitorAt_15 1 rfl ?_
      refine vv_callVi (fun r1 => r1) (fun r1 => (wX cy ad fad σ)) C eX_ok h0 [.int x4, .int x1] [] 2 hF (fun r1 hr1 => kX4_isVisitor l D cy ad fad x4 x1 σ r1  hr1) gX4_visitorAt_X4_isVisitor rfl rfl rfl (by decide +kernel) ⟨by decide, by decide⟩ 26 (wX_g26 cy ad fad _) rfl rfl rfl (Nat.le_of_ble_eq_true rfl) dX4_visitorAt_16 ⟨by decide, by decide⟩ (fun r1 hqr1 hF => ?_)
      refine vv_if_eq (tgt := 33) C dX4_visitorAt_19 (by decide) hF (fun c3 hF => ?_) (fun c3 hF => ?_)
      · refine vv_lv [0, 1, 2, 3, 4] rfl ?_
        exact vX4_visitorAt_33 C h0 hr (ih) x1 x2 x3 x4  hF
      · refine vv_iload_n C dX4_visitorAt_22 3 rfl ?_
        refine vv_iload_n C dX4_visitorAt_23 2 rfl ?_
        refine vv_icmp_ne (tgt := 30) C dX4_visitorAt_24 (by decide) hF (fun c2 hF => ?_) (fun c2 hF => ?_)
        · refine vv_iinc (q := 3) (v := x3 + 1) (lv' := [(3, .int (x3 + 1)), (0, .ref (ad 26)), (1, .int x1), (2, .int x2), (4, .int x4)]) C dX4_visitorAt_30 rfl rfl (by decide) rfl ?_
          refine vv_lv [1, 2, 3, 0, 4] rfl ?_
          exact vX4_visitorAt_33 C h0 hr (ih) x1 x2 (x3 + 1) x4  hF
        · refine vv_iload C dX4_visitorAt_27 4 rfl ?_
          cases hF
          exact hr _ _ dX4_visitorAt_29 rfl
set_option maxHeartbeats 4000000 in
set_option maxRecDepth 20000 in
theorem kX4_visitorAt (l : Launch) (D : va_G) (cy : Nat → ClassId) (ad fad : Nat → Nat) (x1 : Int32) (x2 : Int32) (σ : St_) (res : Int32)  (hF : fX4_visitorAt x1 x2 σ = some res) : ct_I l D (tysW cy) eX yX4_visitorAt wsX4_visitorAt rmX4_visitorAt [.ref (ad 26), .int x1, .int x2] (wX cy ad fad σ) res (wX cy ad fad σ) := by
  refine mt_I (by decide) rfl (Nat.le_of_ble_eq_true rfl) ?_
  intro p e s m args below meth c A Q C h0 hr
  replace C : vv_X p s m args meth c D (tysW cy) A 5 cX4_visitorAt RX4 wsX4_visitorAt := C
  replace hF : fX4_visitorAt_5 σ  FU_ x1 x2 0 0 = some res := hF
  refine vv_lv [0, 1, 2] (lv' := [(0, .ref (ad 26)), (1, .int x1), (2, .int x2)]) rfl ?_
  refine vv_iconst (v := 0) C dX4_visitorAt_0 (by decide) ?_
  refine vv_istore_n (lv' := [(3, .int 0), (0, .ref (ad 26)), (1, .int x1), (2, .int x2)]) C dX4_visitorAt_1 (by decide) rfl ?_
  refine vv_iconst (v := 0) C dX4_visitorAt_2 (by decide) ?_
  refine vv_istore (lv' := [(4, .int 0), (3, .int 0), (0, .ref (ad 26)), (1, .int x1), (2, .int x2)]) C dX4_visitorAt_3 (by decide) rfl ?_
  refine vv_lv [2, 3, 4, 1, 0] rfl ?_
  exact vX4_visitorAt_5 C h0 hr  FU_ x1 x2 0 0  hF
/-! X4_tell -/
abbrev rmX4_tell : Room := { frames := 0, cells := 0, slots := 0, locals := 0 }
theorem hi_X4_tell_X4 : ∀ w ∈ wsX40, w ∈ wsX4_tell := fun w h => List.mem_cons_of_mem _ (List.mem_append_right _ h)
def fX4_tell (x1 : Int32) (x2 : Int32) (x3 : Int32) (x4 : Int32) (σ : St_) : Option St_ := (if x4 = 0 then (gd_ x2 10 fun j1 => (gd_ x1 10 fun j2 => (gd_ x1 10 fun j3 => some (uM σ (12 + j1) j3 ((sM σ (12 + j1) j2) &&& ((1 <<< (x3 &&& 31)) ^^^ (-1))))))) else (gd_ x2 10 fun j4 => (gd_ x1 10 fun j5 => (gd_ x1 10 fun j6 => some (uM σ (12 + j4) j6 ((sM σ (12 + j4) j5) ||| (1 <<< (x3 &&& 31))))))))
set_option maxHeartbeats 4000000 in
set_option maxRecDepth 20000 in
theorem kX4_tell (l : Launch) (D : va_G) (cy : Nat → ClassId) (ad fad : Nat → Nat) (x1 : Int32) (x2 : Int32) (x3 : Int32) (x4 : Int32) (σ : St_) (res : St_)  (hF : fX4_tell x1 x2 x3 x4 σ = some res) : ct_V l D (tysW cy) eX yX4_tell wsX4_tell rmX4_tell [.ref (ad 26), .int x1, .int x2, .int x3, .int x4] (wX cy ad fad σ) (wX cy ad fad res) := by
  refine mt_V (by decide) rfl (Nat.le_of_ble_eq_true rfl) ?_
  intro p e s m args below meth c A Q C h0 hr
  replace C : vv_X p s m args meth c D (tysW cy) A 5 cX4_tell RX4 wsX4_tell := C
  replace hF : (if x4 = 0 then (gd_ x2 10 fun j1 => (gd_ x1 10 fun j2 => (gd_ x1 10 fun j3 => some (uM σ (12 + j1) j3 ((sM σ (12 + j1) j2) &&& ((1 <<< (x3 &&& 31)) ^^^ (-1))))))) else (gd_ x2 10 fun j4 => (gd_ x1 10 fun j5 => (gd_ x1 10 fun j6 => some (uM σ (12 + j4) j6 ((sM σ (12 + j4) j5) ||| (1 <<< (x3 &&& 31)))))))) = some res := hF
  refine vv_lv [0, 1, 2, 3, 4] (lv' := [(0, .ref (ad 26)), (1, .int x1), (2, .int x2), (3, .int x3), (4, .int x4)]) rfl ?_
  refine vv_iload C dX4_tell_0 4 rfl ?_
  refine vv_if_eq (tgt := 22) C dX4_tell_2 (by decide) hF (fun c7 hF => ?_) (fun c7 hF => ?_)
  · refine vv_aload_n C dX4_tell_22 0 rfl ?_
    refine vv_get (v := .ref (ad 22)) C (hi_X4_tell_X4) 26 (wX_g26 cy ad fad _) rfl 2 (by decide) (List.mem_of_getElem? (i := 1) rfl) rfl dX4_tell_23 ?_
    refine vv_iload_n C dX4_tell_26 2 rfl ?_
    refine vv_aldA C 22 4 (wX_g22 cy ad fad _) (tysW_4 cy) hF dX4_tell_27 (fun j1 hj1 hF => ?_)
    refine vv_st (st' := [.ref (ad (12 + j1))]) (by rw [if_pos hj1]; rfl) ?_
    refine vv_iload_n C dX4_tell_28 1 rfl ?_
    refine vv_dup2 C dX4_tell_29 rfl rfl ?_
    refine vv_iald C (12 + j1) 0 (wX_row cy ad fad _ _ hj1) (tysW_0 cy) hF dX4_tell_30 (fun j2 hj2 hF => ?_)
    refine vv_iconst (v := 1) C dX4_tell_31 (by decide) ?_
    refine vv_iload_n C dX4_tell_32 3 rfl ?_
    refine vv_ishl C dX4_tell_33 ?_
    refine vv_iconst (v := (-1)) C dX4_tell_34 (by decide) ?_
    refine vv_ixor C dX4_tell_35 ?_
    refine vv_iand C dX4_tell_36 ?_
    refine vv_iast (w' := fun j3 => (wX cy ad fad (uM σ (12 + j1) j3 ((sM σ (12 + j1) j2) &&& ((1 <<< (x3 &&& 31)) ^^^ (-1)))))) C (12 + j1) 0 (wX_row cy ad fad _ _ hj1) (tysW_0 cy) hF dX4_tell_37 (fun _ => wX_rowS _ _ _ _ _ _ hj1) (fun j3 hj3 hF => ?_)
    cases hF
    exact hr _ _ dX4_tell_38
  · refine vv_aload_n C dX4_tell_5 0 rfl ?_
    refine vv_get (v := .ref (ad 22)) C (hi_X4_tell_X4) 26 (wX_g26 cy ad fad _) rfl 2 (by decide) (List.mem_of_getElem? (i := 1) rfl) rfl dX4_tell_6 ?_
    refine vv_iload_n C dX4_tell_9 2 rfl ?_
    refine vv_aldA C 22 4 (wX_g22 cy ad fad _) (tysW_4 cy) hF dX4_tell_10 (fun j4 hj4 hF => ?_)
    refine vv_st (st' := [.ref (ad (12 + j4))]) (by rw [if_pos hj4]; rfl) ?_
    refine vv_iload_n C dX4_tell_11 1 rfl ?_
    refine vv_dup2 C dX4_tell_12 rfl rfl ?_
    refine vv_iald C (12 + j4) 0 (wX_row cy ad fad _ _ hj4) (tysW_0 cy) hF dX4_tell_13 (fun j5 hj5 hF => ?_)
    refine vv_iconst (v := 1) C dX4_tell_14 (by decide) ?_
    refine vv_iload_n C dX4_tell_15 3 rfl ?_
    refine vv_ishl C dX4_tell_16 ?_
    refine vv_ior C dX4_tell_17 ?_
    refine vv_iast (w' := fun j6 => (wX cy ad fad (uM σ (12 + j4) j6 ((sM σ (12 + j4) j5) ||| (1 <<< (x3 &&& 31)))))) C (12 + j4) 0 (wX_row cy ad fad _ _ hj4) (tysW_0 cy) hF dX4_tell_18 (fun _ => wX_rowS _ _ _ _ _ _ hj4) (fun j6 hj6 hF => ?_)
    refine vv_goto (tgt := 38) C dX4_tell_19 (by decide) ?_
    cases hF
    exact hr _ _ dX4_tell_38
/-! X4_breachesAt -/
abbrev rmX4_breachesAt : Room := { frames := 0, cells := 0, slots := 0, locals := 0 }
theorem hi_X4_breachesAt_X4 : ∀ w ∈ wsX40, w ∈ wsX4_breachesAt := fun w h => List.mem_cons_of_mem _ (List.mem_append_right _ h)
def fX4_breachesAt_7 (σ : St_) : Nat → Int32 → Int32 → Int32 → Int32 → Option Int32
  | 0, _, _, _, _ => none
  | n + 1, x1, x2, x3, x4 => (if 10 ≤ x4 then some x3 else (gd_ x1 10 fun j1 => (gd_ x4 10 fun j2 => (gd_ x1 10 fun j3 => (gd_ x4 10 fun j4 => fX4_breachesAt_7 σ  n x1 (x2 ||| (sM σ (12 + j3) j4)) (x3 ||| (x2 &&& (sM σ (12 + j1) j2))) (x4 + 1))))))
def fX4_breachesAt (x1 : Int32) (σ : St_) : Option Int32 := fX4_breachesAt_7 σ  FU_ x1 0 0 0
set_option maxHeartbeats 4000000 in
set_option maxRecDepth 20000 in
theorem vX4_breachesAt_7 {p : Program} {l : Launch} {e : Env} {s : State} {m : MethodId} {args : Array Value} {below : List Frame} {meth : Method} {c : Code} {D : va_G} {A : Nat → Prop} {Q : State → Prop} {cy : Nat → ClassId} {ad fad : Nat → Nat} {σ : St_} {res : Int32} (C : vv_X p s m args meth c D (tysW cy) A 5 cX4_breachesAt RX4 wsX4_breachesAt) (h0 : eX A s) (hr : rt_I p l e rmX4_breachesAt s m args below meth c D A 5 Q cX4_breachesAt .int (wX cy ad fad σ) res) : ∀ (n : Nat) (x1 : Int32) (x2 : Int32) (x3 : Int32) (x4 : Int32), fX4_breachesAt_7 σ  n x1 x2 x3 x4 = some res → vv_ p l e rmX4_breachesAt s m args below meth c D A 5 Q 0 0 (wX cy ad fad σ) [(0, .ref (ad 26)), (1, .int x1), (2, .int x2), (3, .int x3), (4, .int x4)] 7 [] := by
  intro n
  induction n with
  | zero =>
    intro x1 x2 x3 x4 hF
    cases (show none = some res from hF)
  | succ n ih =>
    intro x1 x2 x3 x4 hF
    replace hF : (if 10 ≤ x4 then some x3 else (gd_ x1 10 fun j1 => (gd_ x4 10 fun j2 => (gd_ x1 10 fun j3 => (gd_ x4 10 fun j4 => fX4_breachesAt_7 σ  n x1 (x2 ||| (sM σ (12 + j3) j4)) (x3 ||| (x2 &&& (sM σ (12 + j1) j2))) (x4 + 1)))))) = some res := hF
    refine vv_iload C dX4_breachesAt_7 4 rfl ?_
    refine vv_bipush (v := 10) C dX4_breachesAt_9 (by decide) ?_
    refine vv_icmp_ge (tgt := 46) C dX4_breachesAt_11 (by decide) hF (fun c5 hF => ?_) (fun c5 hF => ?_)
    · refine vv_iload_n C dX4_breachesAt_46 3 rfl ?_
      cases hF
      exact hr _ _ dX4_breachesAt_47 rfl
    · refine vv_iload_n C dX4_breachesAt_14 3 rfl ?_
      refine vv_iload_n C dX4_breachesAt_15 2 rfl ?_
      refine vv_aload_n C dX4_breachesAt_16 0 rfl ?_
      refine vv_get (v := .ref (ad 22)) C (hi_X4_breachesAt_X4) 26 (wX_g26 cy ad fad _) rfl 2 (by decide) (List.mem_of_getElem? (i := 1) rfl) rfl dX4_breachesAt_17 ?_
      refine vv_iload_n C dX4_breachesAt_20 1 rfl ?_
      refine vv_aldA C 22 4 (wX_g22 cy ad fad _) (tysW_4 cy) hF dX4_breachesAt_21 (fun j1 hj1 hF => ?_)
      refine vv_st (st' := [.ref (ad (12 + j1)), .int x2, .int x3]) (by rw [if_pos hj1]; rfl) ?_
      refine vv_iload C dX4_breachesAt_22 4 rfl ?_
      refine vv_iald C (12 + j1) 0 (wX_row cy ad fad _ _ hj1) (tysW_0 cy) hF dX4_breachesAt_24 (fun j2 hj2 hF => ?_)
      refine vv_iand C dX4_breachesAt_25 ?_
      refine vv_ior C dX4_breachesAt_26 ?_
      refine vv_istore_n (lv' := [(3, .int (x3 ||| (x2 &&& (sM σ (12 + j1) j2)))), (0, .ref (ad 26)), (1, .int x1), (2, .int x2), (4, .int x4)]) C dX4_breachesAt_27 (by decide) rfl ?_
      refine vv_iload_n C dX4_breachesAt_28 3 rfl ?_
      refine vv_aload_n C dX4_breachesAt_29 1 rfl ?_
      refine vv_get (v := .ref (ad 22)) C (hi_X4_breachesAt_X4) 26 (wX_g26 cy ad fad _) rfl 2 (by decide) (List.mem_of_getElem? (i := 1) rfl) rfl dX4_breachesAt_30 ?_
      refine vv_iload_n C dX4_breachesAt_33 2 rfl ?_
      refine vv_aldA C 22 4 (wX_g22 cy ad fad _) (tysW_4 cy) hF dX4_breachesAt_34 (fun j3 hj3 hF => ?_)
      refine vv_st (st' := [.ref (ad (12 + j3)), .int x2]) (by rw [if_pos hj3]; rfl) ?_
      refine vv_iload C dX4_breachesAt_35 4 rfl ?_
      refine vv_iald C (12 + j3) 0 (wX_row cy ad fad _ _ hj3) (tysW_0 cy) hF dX4_breachesAt_37 (fun j4 hj4 hF => ?_)
      refine vv_ior C dX4_breachesAt_38 ?_
      refine vv_istore_n (lv' := [(2, .int (x2 ||| (sM σ (12 + j3) j4))), (3, .int (x3 ||| (x2 &&& (sM σ (12 + j1) j2)))), (0, .ref (ad 26)), (1, .int x1), (4, .int x4)]) C dX4_breachesAt_39 (by decide) rfl ?_
      refine vv_iinc (q := 4) (v := x4 + 1) (lv' := [(4, .int (x4 + 1)), (2, .int (x2 ||| (sM σ (12 + j3) j4))), (3, .int (x3 ||| (x2 &&& (sM σ (12 + j1) j2)))), (0, .ref (ad 26)), (1, .int x1)]) C dX4_breachesAt_40 rfl rfl (by decide) rfl ?_
      refine vv_goto (tgt := 7) C dX4_breachesAt_43 (by decide) ?_
      refine vv_lv [3, 4, 1, 2, 0] rfl ?_
      exact ih x1 (x2 ||| (sM σ (12 + j3) j4)) (x3 ||| (x2 &&& (sM σ (12 + j1) j2))) (x4 + 1)  hF
set_option maxHeartbeats 4000000 in
set_option maxRecDepth 20000 in
theorem kX4_breachesAt (l : Launch) (D : va_G) (cy : Nat → ClassId) (ad fad : Nat → Nat) (x1 : Int32) (σ : St_) (res : Int32)  (hF : fX4_breachesAt x1 σ = some res) : ct_I l D (tysW cy) eX yX4_breachesAt wsX4_breachesAt rmX4_breachesAt [.ref (ad 26), .int x1] (wX cy ad fad σ) res (wX cy ad fad σ) := by
  refine mt_I (by decide) rfl (Nat.le_of_ble_eq_true rfl) ?_
  intro p e s m args below meth c A Q C h0 hr
  replace C : vv_X p s m args meth c D (tysW cy) A 5 cX4_breachesAt RX4 wsX4_breachesAt := C
  replace hF : fX4_breachesAt_7 σ  FU_ x1 0 0 0 = some res := hF
  refine vv_lv [0, 1] (lv' := [(0, .ref (ad 26)), (1, .int x1)]) rfl ?_
  refine vv_iconst (v := 0) C dX4_breachesAt_0 (by decide) ?_
  refine vv_istore_n (lv' := [(2, .int 0), (0, .ref (ad 26)), (1, .int x1)]) C dX4_breachesAt_1 (by decide) rfl ?_
  refine vv_iconst (v := 0) C dX4_breachesAt_2 (by decide) ?_
  refine vv_istore_n (lv' := [(3, .int 0), (2, .int 0), (0, .ref (ad 26)), (1, .int x1)]) C dX4_breachesAt_3 (by decide) rfl ?_
  refine vv_iconst (v := 0) C dX4_breachesAt_4 (by decide) ?_
  refine vv_istore (lv' := [(4, .int 0), (3, .int 0), (2, .int 0), (0, .ref (ad 26)), (1, .int x1)]) C dX4_breachesAt_5 (by decide) rfl ?_
  refine vv_lv [3, 4, 2, 1, 0] rfl ?_
  exact vX4_breachesAt_7 C h0 hr  FU_ x1 0 0 0  hF
/-! X4_vouchersFor -/
abbrev rmX4_vouchersFor : Room := { frames := 0, cells := 0, slots := 0, locals := 0 }
theorem hi_X4_vouchersFor_X4 : ∀ w ∈ wsX40, w ∈ wsX4_vouchersFor := fun w h => List.mem_cons_of_mem _ (List.mem_append_right _ h)
def fX4_vouchersFor_34 (σ : St_) (k9 : Int32 → Int32 → Int32 → Option Int32) (x1 : Int32) (x2 : Int32) (x3 : Int32) : Option Int32 := k9 x1 x2 (x3 + 1)
def fX4_vouchersFor_9 (σ : St_) : Nat → Int32 → Int32 → Int32 → Option Int32
  | 0, _, _, _ => none
  | n + 1, x1, x2, x3 => (if 10 ≤ x3 then some x2 else (gd_ x1 10 fun j2 => (gd_ x3 10 fun j3 => (if (sM σ (12 + j2) j3) = 0 then fX4_vouchersFor_34 σ (fX4_vouchersFor_9 σ  n) x1 x2 x3 else fX4_vouchersFor_34 σ (fX4_vouchersFor_9 σ  n) x1 (x2 &&& ((1 <<< (x3 &&& 31)) ^^^ (-1))) x3))))
def fX4_vouchersFor (x1 : Int32) (σ : St_) : Option Int32 := (gd_ x1 10 fun j1 => fX4_vouchersFor_9 σ  FU_ x1 (sM σ 3 j1) 0)
set_option maxHeartbeats 4000000 in
set_option maxRecDepth 20000 in
theorem vX4_vouchersFor_34 {p : Program} {l : Launch} {e : Env} {s : State} {m : MethodId} {args : Array Value} {below : List Frame} {meth : Method} {c : Code} {D : va_G} {A : Nat → Prop} {Q : State → Prop} {cy : Nat → ClassId} {ad fad : Nat → Nat} {k9 : Int32 → Int32 → Int32 → Option Int32} {σ : St_} {res : Int32} (C : vv_X p s m args meth c D (tysW cy) A 4 cX4_vouchersFor RX4 wsX4_vouchersFor) (h0 : eX A s) (hr : rt_I p l e rmX4_vouchersFor s m args below meth c D A 4 Q cX4_vouchersFor .int (wX cy ad fad σ) res) (hk9 : ∀ (x1 : Int32) (x2 : Int32) (x3 : Int32), k9 x1 x2 x3 = some res → vv_ p l e rmX4_vouchersFor s m args below meth c D A 4 Q 0 0 (wX cy ad fad σ) [(0, .ref (ad 26)), (1, .int x1), (2, .int x2), (3, .int x3)] 9 []) : ∀ (x1 : Int32) (x2 : Int32) (x3 : Int32), fX4_vouchersFor_34 σ k9 x1 x2 x3 = some res → vv_ p l e rmX4_vouchersFor s m args below meth c D A 4 Q 0 0 (wX cy ad fad σ) [(0, .ref (ad 26)), (1, .int x1), (2, .int x2), (3, .int x3)] 34 [] := by
  intro x1 x2 x3 hF
  replace hF : k9 x1 x2 (x3 + 1) = some res := hF
  refine vv_iinc (q := 3) (v := x3 + 1) (lv' := [(3, .int (x3 + 1)), (0, .ref (ad 26)), (1, .int x1), (2, .int x2)]) C dX4_vouchersFor_34 rfl rfl (by decide) rfl ?_
  refine vv_goto (tgt := 9) C dX4_vouchersFor_37 (by decide) ?_
  refine vv_lv [1, 2, 3, 0] rfl ?_
  exact hk9 x1 x2 (x3 + 1)  hF
set_option maxHeartbeats 4000000 in
set_option maxRecDepth 20000 in
theorem vX4_vouchersFor_9 {p : Program} {l : Launch} {e : Env} {s : State} {m : MethodId} {args : Array Value} {below : List Frame} {meth : Method} {c : Code} {D : va_G} {A : Nat → Prop} {Q : State → Prop} {cy : Nat → ClassId} {ad fad : Nat → Nat} {σ : St_} {res : Int32} (C : vv_X p s m args meth c D (tysW cy) A 4 cX4_vouchersFor RX4 wsX4_vouchersFor) (h0 : eX A s) (hr : rt_I p l e rmX4_vouchersFor s m args below meth c D A 4 Q cX4_vouchersFor .int (wX cy ad fad σ) res) : ∀ (n : Nat) (x1 : Int32) (x2 : Int32) (x3 : Int32), fX4_vouchersFor_9 σ  n x1 x2 x3 = some res → vv_ p l e rmX4_vouchersFor s m args below meth c D A 4 Q 0 0 (wX cy ad fad σ) [(0, .ref (ad 26)), (1, .int x1), (2, .int x2), (3, .int x3)] 9 [] := by
  intro n
  induction n with
  | zero =>
    intro x1 x2 x3 hF
    cases (show none = some res from hF)
  | succ n ih =>
    intro x1 x2 x3 hF
    replace hF : (if 10 ≤ x3 then some x2 else (gd_ x1 10 fun j2 => (gd_ x3 10 fun j3 => (if (sM σ (12 + j2) j3) = 0 then fX4_vouchersFor_34 σ (fX4_vouchersFor_9 σ  n) x1 x2 x3 else fX4_vouchersFor_34 σ (fX4_vouchersFor_9 σ  n) x1 (x2 &&& ((1 <<< (x3 &&& 31)) ^^^ (-1))) x3)))) = some res := hF
    refine vv_iload_n C dX4_vouchersFor_9 3 rfl ?_
    refine vv_bipush (v := 10) C dX4_vouchersFor_10 (by decide) ?_
    refine vv_icmp_ge (tgt := 40) C dX4_vouchersFor_12 (by decide) hF (fun c5 hF => ?_) (fun c5 hF => ?_)
    · refine vv_iload_n C dX4_vouchersFor_40 2 rfl ?_
      cases hF
      exact hr _ _ dX4_vouchersFor_41 rfl
    · refine vv_aload_n C dX4_vouchersFor_15 0 rfl ?_
      refine vv_get (v := .ref (ad 22)) C (hi_X4_vouchersFor_X4) 26 (wX_g26 cy ad fad _) rfl 2 (by decide) (List.mem_of_getElem? (i := 2) rfl) rfl dX4_vouchersFor_16 ?_
      refine vv_iload_n C dX4_vouchersFor_19 1 rfl ?_
      refine vv_aldA C 22 4 (wX_g22 cy ad fad _) (tysW_4 cy) hF dX4_vouchersFor_20 (fun j2 hj2 hF => ?_)
      refine vv_st (st' := [.ref (ad (12 + j2))]) (by rw [if_pos hj2]; rfl) ?_
      refine vv_iload_n C dX4_vouchersFor_21 3 rfl ?_
      refine vv_iald C (12 + j2) 0 (wX_row cy ad fad _ _ hj2) (tysW_0 cy) hF dX4_vouchersFor_22 (fun j3 hj3 hF => ?_)
      refine vv_if_eq (tgt := 34) C dX4_vouchersFor_23 (by decide) hF (fun c4 hF => ?_) (fun c4 hF => ?_)
      · refine vv_lv [0, 1, 2, 3] rfl ?_
        exact vX4_vouchersFor_34 C h0 hr (ih) x1 x2 x3  hF
      · refine vv_iload_n C dX4_vouchersFor_26 2 rfl ?_
        refine vv_iconst (v := 1) C dX4_vouchersFor_27 (by decide) ?_
        refine vv_iload_n C dX4_vouchersFor_28 3 rfl ?_
        refine vv_ishl C dX4_vouchersFor_29 ?_
        refine vv_iconst (v := (-1)) C dX4_vouchersFor_30 (by decide) ?_
        refine vv_ixor C dX4_vouchersFor_31 ?_
        refine vv_iand C dX4_vouchersFor_32 ?_
        refine vv_istore_n (lv' := [(2, .int (x2 &&& ((1 <<< (x3 &&& 31)) ^^^ (-1)))), (0, .ref (ad 26)), (1, .int x1), (3, .int x3)]) C dX4_vouchersFor_33 (by decide) rfl ?_
        refine vv_lv [1, 2, 0, 3] rfl ?_
        exact vX4_vouchersFor_34 C h0 hr (ih) x1 (x2 &&& ((1 <<< (x3 &&& 31)) ^^^ (-1))) x3  hF
set_option maxHeartbeats 4000000 in
set_option maxRecDepth 20000 in
theorem kX4_vouchersFor (l : Launch) (D : va_G) (cy : Nat → ClassId) (ad fad : Nat → Nat) (x1 : Int32) (σ : St_) (res : Int32)  (hF : fX4_vouchersFor x1 σ = some res) : ct_I l D (tysW cy) eX yX4_vouchersFor wsX4_vouchersFor rmX4_vouchersFor [.ref (ad 26), .int x1] (wX cy ad fad σ) res (wX cy ad fad σ) := by
  refine mt_I (by decide) rfl (Nat.le_of_ble_eq_true rfl) ?_
  intro p e s m args below meth c A Q C h0 hr
  replace C : vv_X p s m args meth c D (tysW cy) A 4 cX4_vouchersFor RX4 wsX4_vouchersFor := C
  replace hF : (gd_ x1 10 fun j1 => fX4_vouchersFor_9 σ  FU_ x1 (sM σ 3 j1) 0) = some res := hF
  refine vv_lv [0, 1] (lv' := [(0, .ref (ad 26)), (1, .int x1)]) rfl ?_
  refine vv_aload_n C dX4_vouchersFor_0 0 rfl ?_
  refine vv_get (v := .ref (ad 3)) C (hi_X4_vouchersFor_X4) 26 (wX_g26 cy ad fad _) rfl 0 (by decide) (List.mem_of_getElem? (i := 1) rfl) rfl dX4_vouchersFor_1 ?_
  refine vv_iload_n C dX4_vouchersFor_4 1 rfl ?_
  refine vv_iald C 3 0 (wX_g3 cy ad fad _) (tysW_0 cy) hF dX4_vouchersFor_5 (fun j1 hj1 hF => ?_)
  refine vv_istore_n (lv' := [(2, .int (sM σ 3 j1)), (0, .ref (ad 26)), (1, .int x1)]) C dX4_vouchersFor_6 (by decide) rfl ?_
  refine vv_iconst (v := 0) C dX4_vouchersFor_7 (by decide) ?_
  refine vv_istore_n (lv' := [(3, .int 0), (2, .int (sM σ 3 j1)), (0, .ref (ad 26)), (1, .int x1)]) C dX4_vouchersFor_8 (by decide) rfl ?_
  refine vv_lv [2, 3, 1, 0] rfl ?_
  exact vX4_vouchersFor_9 C h0 hr  FU_ x1 (sM σ 3 j1) 0  hF
/-! X4_vouchedForBy -/
abbrev rmX4_vouchedForBy : Room := { frames := 1, cells := 0, slots := 0, locals := 23 }
def fX4_vouchedForBy_26 (σ : St_) (k4 : Int32 → Int32 → Int32 → Option Int32) (x1 : Int32) (x2 : Int32) (x3 : Int32) : Option Int32 := k4 x1 x2 (x3 + 1)
def fX4_vouchedForBy_4 (σ : St_) : Nat → Int32 → Int32 → Int32 → Option Int32
  | 0, _, _, _ => none
  | n + 1, x1, x2, x3 => (if 10 ≤ x3 then some x2 else (bn_ (fX4_vouchersFor x3 σ) fun r1 => (if (r1 &&& x1) = 0 then fX4_vouchedForBy_26 σ (fX4_vouchedForBy_4 σ  n) x1 x2 x3 else fX4_vouchedForBy_26 σ (fX4_vouchedForBy_4 σ  n) x1 (x2 ||| (1 <<< (x3 &&& 31))) x3)))
def fX4_vouchedForBy (x1 : Int32) (σ : St_) : Option Int32 := fX4_vouchedForBy_4 σ  FU_ x1 0 0
set_option maxHeartbeats 4000000 in
set_option maxRecDepth 20000 in
theorem vX4_vouchedForBy_26 {p : Program} {l : Launch} {e : Env} {s : State} {m : MethodId} {args : Array Value} {below : List Frame} {meth : Method} {c : Code} {D : va_G} {A : Nat → Prop} {Q : State → Prop} {cy : Nat → ClassId} {ad fad : Nat → Nat} {k4 : Int32 → Int32 → Int32 → Option Int32} {σ : St_} {res : Int32} (C : vv_X p s m args meth c D (tysW cy) A 4 cX4_vouchedForBy RX4 wsX4_vouchedForBy) (h0 : eX A s) (hr : rt_I p l e rmX4_vouchedForBy s m args below meth c D A 4 Q cX4_vouchedForBy .int (wX cy ad fad σ) res) (hk4 : ∀ (x1 : Int32) (x2 : Int32) (x3 : Int32), k4 x1 x2 x3 = some res → vv_ p l e rmX4_vouchedForBy s m args below meth c D A 4 Q 0 0 (wX cy ad fad σ) [(0, .ref (ad 26)), (1, .int x1), (2, .int x2), (3, .int x3)] 4 []) : ∀ (x1 : Int32) (x2 : Int32) (x3 : Int32), fX4_vouchedForBy_26 σ k4 x1 x2 x3 = some res → vv_ p l e rmX4_vouchedForBy s m args below meth c D A 4 Q 0 0 (wX cy ad fad σ) [(0, .ref (ad 26)), (1, .int x1), (2, .int x2), (3, .int x3)] 26 [] := by
  intro x1 x2 x3 hF
  replace hF : k4 x1 x2 (x3 + 1) = some res := hF
  refine vv_iinc (q := 3) (v := x3 + 1) (lv' := [(3, .int (x3 + 1)), (0, .ref (ad 26)), (1, .int x1), (2, .int x2)]) C dX4_vouchedForBy_26 rfl rfl (by decide) rfl ?_
  refine vv_goto (tgt := 4) C dX4_vouchedForBy_29 (by decide) ?_
  refine vv_lv [1, 2, 3, 0] rfl ?_
  exact hk4 x1 x2 (x3 + 1)  hF
set_option maxHeartbeats 4000000 in
set_option maxRecDepth 20000 in
theorem vX4_vouchedForBy_4 {p : Program} {l : Launch} {e : Env} {s : State} {m : MethodId} {args : Array Value} {below : List Frame} {meth : Method} {c : Code} {D : va_G} {A : Nat → Prop} {Q : State → Prop} {cy : Nat → ClassId} {ad fad : Nat → Nat} {σ : St_} {res : Int32} (C : vv_X p s m args meth c D (tysW cy) A 4 cX4_vouchedForBy RX4 wsX4_vouchedForBy) (h0 : eX A s) (hr : rt_I p l e rmX4_vouchedForBy s m args below meth c D A 4 Q cX4_vouchedForBy .int (wX cy ad fad σ) res) : ∀ (n : Nat) (x1 : Int32) (x2 : Int32) (x3 : Int32), fX4_vouchedForBy_4 σ  n x1 x2 x3 = some res → vv_ p l e rmX4_vouchedForBy s m args below meth c D A 4 Q 0 0 (wX cy ad fad σ) [(0, .ref (ad 26)), (1, .int x1), (2, .int x2), (3, .int x3)] 4 [] := by
  intro n
  induction n with
  | zero =>
    intro x1 x2 x3 hF
    cases (show none = some res from hF)
  | succ n ih =>
    intro x1 x2 x3 hF
    replace hF : (if 10 ≤ x3 then some x2 else (bn_ (fX4_vouchersFor x3 σ) fun r1 => (if (r1 &&& x1) = 0 then fX4_vouchedForBy_26 σ (fX4_vouchedForBy_4 σ  n) x1 x2 x3 else fX4_vouchedForBy_26 σ (fX4_vouchedForBy_4 σ  n) x1 (x2 ||| (1 <<< (x3 &&& 31))) x3))) = some res := hF
    refine vv_iload_n C dX4_vouchedForBy_4 3 rfl ?_
    refine vv_bipush (v := 10) C dX4_vouchedForBy_5 (by decide) ?_
    refine vv_icmp_ge (tgt := 32) C dX4_vouchedForBy_7 (by decide) hF (fun c3 hF => ?_) (fun c3 hF => ?_)
    · refine vv_iload_n C dX4_vouchedForBy_32 2 rfl ?_
      cases hF
      exact hr _ _ dX4_vouchedForBy_33 rfl
    · refine vv_aload_n C dX4_vouchedForBy_10 0 rfl ?_
      refine vv_iload_n C dX4_vouchedForBy_11 3 rfl ?_
      refine vv_callVi (fun r1 => r1) (fun r1 => (wX cy ad fad σ)) C eX_ok h0 [.int x3] [] 1 hF (fun r1 hr1 => kX4_vouchersFor l D cy ad fad x3 σ r1  hr1) gX4_vouchedForBy_X4_vouchersFor rfl rfl rfl (by decide +kernel) ⟨by decide, by decide⟩ 26 (wX_g26 cy ad fad _) rfl rfl rfl (Nat.le_of_ble_eq_true rfl) dX4_vouchedForBy_12 ⟨by decide, by decide⟩ (fun r1 hqr1 hF => ?_)
      refine vv_iload_n C dX4_vouchedForBy_15 1 rfl ?_
      refine vv_iand C dX4_vouchedForBy_16 ?_
      refine vv_if_eq (tgt := 26) C dX4_vouchedForBy_17 (by decide) hF (fun c2 hF => ?_) (fun c2 hF => ?_)
      · refine vv_lv [0, 1, 2, 3] rfl ?_
        exact vX4_vouchedForBy_26 C h0 hr (ih) x1 x2 x3  hF
      · refine vv_iload_n C dX4_vouchedForBy_20 2 rfl ?_
        refine vv_iconst (v := 1) C dX4_vouchedForBy_21 (by decide) ?_
        refine vv_iload_n C dX4_vouchedForBy_22 3 rfl ?_
        refine vv_ishl C dX4_vouchedForBy_23 ?_
        refine vv_ior C dX4_vouchedForBy_24 ?_
        refine vv_istore_n (lv' := [(2, .int (x2 ||| (1 <<< (x3 &&& 31)))), (0, .ref (ad 26)), (1, .int x1), (3, .int x3)]) C dX4_vouchedForBy_25 (by decide) rfl ?_
        refine vv_lv [1, 2, 0, 3] rfl ?_
        exact vX4_vouchedForBy_26 C h0 hr (ih) x1 (x2 ||| (1 <<< (x3 &&& 31))) x3  hF
set_option maxHeartbeats 4000000 in
set_option maxRecDepth 20000 in
theorem kX4_vouchedForBy (l : Launch) (D : va_G) (cy : Nat → ClassId) (ad fad : Nat → Nat) (x1 : Int32) (σ : St_) (res : Int32)  (hF : fX4_vouchedForBy x1 σ = some res) : ct_I l D (tysW cy) eX yX4_vouchedForBy wsX4_vouchedForBy rmX4_vouchedForBy [.ref (ad 26), .int x1] (wX cy ad fad σ) res (wX cy ad fad σ) := by
  refine mt_I (by decide) rfl (Nat.le_of_ble_eq_true rfl) ?_
  intro p e s m args below meth c A Q C h0 hr
  replace C : vv_X p s m args meth c D (tysW cy) A 4 cX4_vouchedForBy RX4 wsX4_vouchedForBy := C
  replace hF : fX4_vouchedForBy_4 σ  FU_ x1 0 0 = some res := hF
  refine vv_lv [0, 1] (lv' := [(0, .ref (ad 26)), (1, .int x1)]) rfl ?_
  refine vv_iconst (v := 0) C dX4_vouchedForBy_0 (by decide) ?_
  refine vv_istore_n (lv' := [(2, .int 0), (0, .ref (ad 26)), (1, .int x1)]) C dX4_vouchedForBy_1 (by decide) rfl ?_
  refine vv_iconst (v := 0) C dX4_vouchedForBy_2 (by decide) ?_
  refine vv_istore_n (lv' := [(3, .int 0), (2, .int 0), (0, .ref (ad 26)), (1, .int x1)]) C dX4_vouchedForBy_3 (by decide) rfl ?_
  refine vv_lv [2, 3, 1, 0] rfl ?_
  exact vX4_vouchedForBy_4 C h0 hr  FU_ x1 0 0  hF
end
section
/-! X1_begin -/
abbrev rmX1_begin : Room := { frames := 1, cells := 0, slots := 0, locals := 23 }
theorem hi_X1_begin_X1 : ∀ w ∈ wsX10, w ∈ wsX1_begin := fun w h => List.mem_cons_of_mem _ (List.mem_append_right _ h)
def fX1_begin (x1 : Int32) (x2 : Int32) (σ : St_) : Option St_ := (bn_ (fJ7_fill_53178_q5 0 (uS (uS σ 3 x1) 4 x2)) fun r1 => (bn_ (fJ7_fill_53178_q8 0 r1) fun r2 => (bn_ (fJ7_fill_53178_q9 0 r2) fun r3 => some r3)))
set_option maxHeartbeats 4000000 in
set_option maxRecDepth 20000 in
theorem kX1_begin (l : Launch) (D : va_G) (cy : Nat → ClassId) (ad fad : Nat → Nat) (x1 : Int32) (x2 : Int32) (σ : St_) (res : St_)  (hF : fX1_begin x1 x2 σ = some res) : ct_V l D (tysW cy) eX yX1_begin wsX1_begin rmX1_begin [.ref (ad 27), .int x1, .int x2] (wX cy ad fad σ) (wX cy ad fad res) := by
  refine mt_V (by decide) rfl (Nat.le_of_ble_eq_true rfl) ?_
  intro p e s m args below meth c A Q C h0 hr
  replace C : vv_X p s m args meth c D (tysW cy) A 3 cX1_begin RX1 wsX1_begin := C
  replace hF : (bn_ (fJ7_fill_53178_q5 0 (uS (uS σ 3 x1) 4 x2)) fun r1 => (bn_ (fJ7_fill_53178_q8 0 r1) fun r2 => (bn_ (fJ7_fill_53178_q9 0 r2) fun r3 => some r3))) = some res := hF
  refine vv_lv [0, 1, 2] (lv' := [(0, .ref (ad 27)), (1, .int x1), (2, .int x2)]) rfl ?_
  refine vv_aload_n C dX1_begin_0 0 rfl ?_
  refine vv_iload_n C dX1_begin_1 1 rfl ?_
  refine vv_put (w' := (wX cy ad fad (uS σ 3 x1))) C (hi_X1_begin_X1) tyX1 tyX1_ok nmX1 27 (wX_g27 cy ad fad _) rfl 5 (by decide) (List.mem_of_getElem? (i := 1) rfl) rfl rfl rfl (Nat.le_of_ble_eq_true rfl) dX1_begin_2 (wX_s3 _ _ _ _ _) ?_
  refine vv_aload_n C dX1_begin_5 0 rfl ?_
  refine vv_iload_n C dX1_begin_6 2 rfl ?_
  refine vv_put (w' := (wX cy ad fad (uS (uS σ 3 x1) 4 x2))) C (hi_X1_begin_X1) tyX1 tyX1_ok nmX1 27 (wX_g27 cy ad fad _) rfl 6 (by decide) (List.mem_of_getElem? (i := 2) rfl) rfl rfl rfl (Nat.le_of_ble_eq_true rfl) dX1_begin_7 (wX_s4 _ _ _ _ _) ?_
  refine vv_aload_n C dX1_begin_10 0 rfl ?_
  refine vv_get (v := .ref (ad 5)) C (hi_X1_begin_X1) 27 (wX_g27 cy ad fad _) rfl 0 (by decide) (List.mem_of_getElem? (i := 3) rfl) rfl dX1_begin_11 ?_
  refine vv_iconst (v := 0) C dX1_begin_14 (by decide) ?_
  refine vv_callSv  (fun r1 => (wX cy ad fad r1)) C eX_ok h0 [.ref (ad 5), .int 0] [] 2 hF (fun r1 hr1 => kJ7_fill_53178_q5 l D cy ad fad 0 (uS (uS σ 3 x1) 4 x2) r1  hr1) gX1_begin_J7_fill_53178 rfl rfl rfl (by decide +kernel) ⟨by decide, by decide⟩ rfl rfl (Nat.le_of_ble_eq_true rfl) dX1_begin_15 ⟨by decide, by decide⟩ (fun r1 hqr1 hF => ?_)
  refine vv_aload_n C dX1_begin_18 0 rfl ?_
  refine vv_get (v := .ref (ad 8)) C (hi_X1_begin_X1) 27 (wX_g27 cy ad fad _) rfl 3 (by decide) (List.mem_of_getElem? (i := 4) rfl) rfl dX1_begin_19 ?_
  refine vv_iconst (v := 0) C dX1_begin_22 (by decide) ?_
  refine vv_callSv  (fun r2 => (wX cy ad fad r2)) C eX_ok h0 [.ref (ad 8), .int 0] [] 2 hF (fun r2 hr2 => kJ7_fill_53178_q8 l D cy ad fad 0 r1 r2  hr2) gX1_begin_J7_fill_53178 rfl rfl rfl (by decide +kernel) ⟨by decide, by decide⟩ rfl rfl (Nat.le_of_ble_eq_true rfl) dX1_begin_23 ⟨by decide, by decide⟩ (fun r2 hqr2 hF => ?_)
  refine vv_aload_n C dX1_begin_26 0 rfl ?_
  refine vv_get (v := .ref (ad 9)) C (hi_X1_begin_X1) 27 (wX_g27 cy ad fad _) rfl 4 (by decide) (List.mem_of_getElem? (i := 5) rfl) rfl dX1_begin_27 ?_
  refine vv_iconst (v := 0) C dX1_begin_30 (by decide) ?_
  refine vv_callSv  (fun r3 => (wX cy ad fad r3)) C eX_ok h0 [.ref (ad 9), .int 0] [] 2 hF (fun r3 hr3 => kJ7_fill_53178_q9 l D cy ad fad 0 r2 r3  hr3) gX1_begin_J7_fill_53178 rfl rfl rfl (by decide +kernel) ⟨by decide, by decide⟩ rfl rfl (Nat.le_of_ble_eq_true rfl) dX1_begin_31 ⟨by decide, by decide⟩ (fun r3 hqr3 hF => ?_)
  cases hF
  exact hr _ _ dX1_begin_34
/-! X1_visitorsOf -/
abbrev rmX1_visitorsOf : Room := { frames := 0, cells := 0, slots := 0, locals := 0 }
theorem hi_X1_visitorsOf_X1 : ∀ w ∈ wsX10, w ∈ wsX1_visitorsOf := fun w h => List.mem_cons_of_mem _ (List.mem_append_right _ h)
def fX1_visitorsOf (x1 : Int32) (σ : St_) : Option Int32 := (gd_ x1 10 fun j1 => some (sM σ 8 j1))
set_option maxHeartbeats 4000000 in
set_option maxRecDepth 20000 in
theorem kX1_visitorsOf (l : Launch) (D : va_G) (cy : Nat → ClassId) (ad fad : Nat → Nat) (x1 : Int32) (σ : St_) (res : Int32)  (hF : fX1_visitorsOf x1 σ = some res) : ct_I l D (tysW cy) eX yX1_visitorsOf wsX1_visitorsOf rmX1_visitorsOf [.ref (ad 27), .int x1] (wX cy ad fad σ) res (wX cy ad fad σ) := by
  refine mt_I (by decide) rfl (Nat.le_of_ble_eq_true rfl) ?_
  intro p e s m args below meth c A Q C h0 hr
  replace C : vv_X p s m args meth c D (tysW cy) A 2 cX1_visitorsOf RX1 wsX1_visitorsOf := C
  replace hF : (gd_ x1 10 fun j1 => some (sM σ 8 j1)) = some res := hF
  refine vv_lv [0, 1] (lv' := [(0, .ref (ad 27)), (1, .int x1)]) rfl ?_
  refine vv_aload_n C dX1_visitorsOf_0 0 rfl ?_
  refine vv_get (v := .ref (ad 8)) C (hi_X1_visitorsOf_X1) 27 (wX_g27 cy ad fad _) rfl 3 (by decide) (List.mem_of_getElem? (i := 1) rfl) rfl dX1_visitorsOf_1 ?_
  refine vv_iload_n C dX1_visitorsOf_4 1 rfl ?_
  refine vv_iald C 8 0 (wX_g8 cy ad fad _) (tysW_0 cy) hF dX1_visitorsOf_5 (fun j1 hj1 hF => ?_)
  cases hF
  exact hr _ _ dX1_visitorsOf_6 rfl
/-! X1_setWay -/
abbrev rmX1_setWay : Room := { frames := 0, cells := 0, slots := 0, locals := 0 }
theorem hi_X1_setWay_X1 : ∀ w ∈ wsX10, w ∈ wsX1_setWay := fun w h => List.mem_cons_of_mem _ (List.mem_append_right _ h)
def fX1_setWay (x1 : Int32) (x2 : Int32) (x3 : Int32) (σ : St_) : Option St_ := (if x3 = 0 then (gd_ x1 22 fun j1 => (gd_ x1 22 fun j2 => some (uM σ 5 j2 ((sM σ 5 j1) &&& ((1 <<< (x2 &&& 31)) ^^^ (-1)))))) else (gd_ x1 22 fun j3 => (gd_ x1 22 fun j4 => some (uM σ 5 j4 ((sM σ 5 j3) ||| (1 <<< (x2 &&& 31)))))))
set_option maxHeartbeats 4000000 in
set_option maxRecDepth 20000 in
theorem kX1_setWay (l : Launch) (D : va_G) (cy : Nat → ClassId) (ad fad : Nat → Nat) (x1 : Int32) (x2 : Int32) (x3 : Int32) (σ : St_) (res : St_)  (hF : fX1_setWay x1 x2 x3 σ = some res) : ct_V l D (tysW cy) eX yX1_setWay wsX1_setWay rmX1_setWay [.ref (ad 27), .int x1, .int x2, .int x3] (wX cy ad fad σ) (wX cy ad fad res) := by
  refine mt_V (by decide) rfl (Nat.le_of_ble_eq_true rfl) ?_
  intro p e s m args below meth c A Q C h0 hr
  replace C : vv_X p s m args meth c D (tysW cy) A 4 cX1_setWay RX1 wsX1_setWay := C
  replace hF : (if x3 = 0 then (gd_ x1 22 fun j1 => (gd_ x1 22 fun j2 => some (uM σ 5 j2 ((sM σ 5 j1) &&& ((1 <<< (x2 &&& 31)) ^^^ (-1)))))) else (gd_ x1 22 fun j3 => (gd_ x1 22 fun j4 => some (uM σ 5 j4 ((sM σ 5 j3) ||| (1 <<< (x2 &&& 31))))))) = some res := hF
  refine vv_lv [0, 1, 2, 3] (lv' := [(0, .ref (ad 27)), (1, .int x1), (2, .int x2), (3, .int x3)]) rfl ?_
  refine vv_iload_n C dX1_setWay_0 3 rfl ?_
  refine vv_if_eq (tgt := 19) C dX1_setWay_1 (by decide) hF (fun c5 hF => ?_) (fun c5 hF => ?_)
  · refine vv_aload_n C dX1_setWay_19 0 rfl ?_
    refine vv_get (v := .ref (ad 5)) C (hi_X1_setWay_X1) 27 (wX_g27 cy ad fad _) rfl 0 (by decide) (List.mem_of_getElem? (i := 1) rfl) rfl dX1_setWay_20 ?_
    refine vv_iload_n C dX1_setWay_23 1 rfl ?_
    refine vv_dup2 C dX1_setWay_24 rfl rfl ?_
    refine vv_iald C 5 0 (wX_g5 cy ad fad _) (tysW_0 cy) hF dX1_setWay_25 (fun j1 hj1 hF => ?_)
    refine vv_iconst (v := 1) C dX1_setWay_26 (by decide) ?_
    refine vv_iload_n C dX1_setWay_27 2 rfl ?_
    refine vv_ishl C dX1_setWay_28 ?_
    refine vv_iconst (v := (-1)) C dX1_setWay_29 (by decide) ?_
    refine vv_ixor C dX1_setWay_30 ?_
    refine vv_iand C dX1_setWay_31 ?_
    refine vv_iast (w' := fun j2 => (wX cy ad fad (uM σ 5 j2 ((sM σ 5 j1) &&& ((1 <<< (x2 &&& 31)) ^^^ (-1)))))) C 5 0 (wX_g5 cy ad fad _) (tysW_0 cy) hF dX1_setWay_32 (fun _ => wX_a5 _ _ _ _ _) (fun j2 hj2 hF => ?_)
    cases hF
    exact hr _ _ dX1_setWay_33
  · refine vv_aload_n C dX1_setWay_4 0 rfl ?_
    refine vv_get (v := .ref (ad 5)) C (hi_X1_setWay_X1) 27 (wX_g27 cy ad fad _) rfl 0 (by decide) (List.mem_of_getElem? (i := 1) rfl) rfl dX1_setWay_5 ?_
    refine vv_iload_n C dX1_setWay_8 1 rfl ?_
    refine vv_dup2 C dX1_setWay_9 rfl rfl ?_
    refine vv_iald C 5 0 (wX_g5 cy ad fad _) (tysW_0 cy) hF dX1_setWay_10 (fun j3 hj3 hF => ?_)
    refine vv_iconst (v := 1) C dX1_setWay_11 (by decide) ?_
    refine vv_iload_n C dX1_setWay_12 2 rfl ?_
    refine vv_ishl C dX1_setWay_13 ?_
    refine vv_ior C dX1_setWay_14 ?_
    refine vv_iast (w' := fun j4 => (wX cy ad fad (uM σ 5 j4 ((sM σ 5 j3) ||| (1 <<< (x2 &&& 31)))))) C 5 0 (wX_g5 cy ad fad _) (tysW_0 cy) hF dX1_setWay_15 (fun _ => wX_a5 _ _ _ _ _) (fun j4 hj4 hF => ?_)
    refine vv_goto (tgt := 33) C dX1_setWay_16 (by decide) ?_
    cases hF
    exact hr _ _ dX1_setWay_33
/-! X1_openByLimits -/
abbrev rmX1_openByLimits : Room := { frames := 1, cells := 0, slots := 0, locals := 23 }
theorem hi_X1_openByLimits_X1 : ∀ w ∈ wsX10, w ∈ wsX1_openByLimits := fun w h => List.mem_cons_of_mem _ (List.mem_append_right _ h)
def fX1_openByLimits_97 (t0 : Int32) (t1 : Int32) (t2 : Int32) (σ : St_) : Option St_ := (bn_ (fX1_setWay t2 t1 t0 σ) fun r13 => some r13)
def fX1_openByLimits_80 (x3 : Int32) (x4 : Int32) (t0 : Int32) (t1 : Int32) (t2 : Int32) (σ : St_) : Option St_ := (bn_ (fX1_setWay t2 t1 t0 σ) fun r11 => (if x4 ≤ 0 then fX1_openByLimits_97  0 x3 21 r11 else fX1_openByLimits_97  1 x3 21 r11))
def fX1_openByLimits_59 (x3 : Int32) (x4 : Int32) (t0 : Int32) (t1 : Int32) (t2 : Int32) (σ : St_) : Option St_ := (bn_ (fX1_setWay t2 t1 t0 σ) fun r9 => (if (sS r9 3) ≤ x4 then fX1_openByLimits_80  x3 x4 0 21 x3 r9 else fX1_openByLimits_80  x3 x4 1 21 x3 r9))
def fX1_openByLimits_38 (x1 : Int32) (x3 : Int32) (x4 : Int32) (t0 : Int32) (t1 : Int32) (t2 : Int32) (σ : St_) : Option St_ := (bn_ (fX1_setWay t2 t1 t0 σ) fun r6 => (gd_ x1 10 fun j7 => (if (sM r6 9 j7) ≤ 0 then fX1_openByLimits_59  x3 x4 0 20 x1 r6 else fX1_openByLimits_59  x3 x4 1 20 x1 r6)))
def fX1_openByLimits (x1 : Int32) (x2 : Int32) (σ : St_) : Option St_ := (bn_ (fX1_placeVisited x2) fun r1 => (gd_ x2 10 fun j2 => (bn_ (fJ6_bitCount_0f7a4 (sM σ 8 j2)) fun r3 => (gd_ x1 10 fun j4 => (if (sS σ 4) ≤ (sM σ 9 j4) then fX1_openByLimits_38  x1 r1 r3 0 x1 20 σ else fX1_openByLimits_38  x1 r1 r3 1 x1 20 σ)))))
set_option maxHeartbeats 4000000 in
set_option maxRecDepth 20000 in
theorem vX1_openByLimits_97 {p : Program} {l : Launch} {e : Env} {s : State} {m : MethodId} {args : Array Value} {below : List Frame} {meth : Method} {c : Code} {D : va_G} {A : Nat → Prop} {Q : State → Prop} {cy : Nat → ClassId} {ad fad : Nat → Nat} {res : St_} (C : vv_X p s m args meth c D (tysW cy) A 5 cX1_openByLimits RX1 wsX1_openByLimits) (h0 : eX A s) (hr : rt_V p l e rmX1_openByLimits s m args below meth c D A 5 Q cX1_openByLimits (wX cy ad fad res)) : ∀ (t0 : Int32) (t1 : Int32) (t2 : Int32) (σ : St_), fX1_openByLimits_97  t0 t1 t2 σ = some res → vv_ p l e rmX1_openByLimits s m args below meth c D A 5 Q 0 0 (wX cy ad fad σ) [] 97 [.int t0, .int t1, .int t2, .ref (ad 27)] := by
  intro t0 t1 t2 σ hF
  replace hF : (bn_ (fX1_setWay t2 t1 t0 σ) fun r13 => some r13) = some res := hF
  refine vv_callVv  (fun r13 => (wX cy ad fad r13)) C eX_ok h0 [.int t2, .int t1, .int t0] [] 3 hF (fun r13 hr13 => kX1_setWay l D cy ad fad t2 t1 t0 σ r13  hr13) gX1_openByLimits_X1_setWay rfl rfl rfl (by decide +kernel) ⟨by decide, by decide⟩ 27 (wX_g27 cy ad fad _) rfl rfl rfl (Nat.le_of_ble_eq_true rfl) dX1_openByLimits_97 ⟨by decide, by decide⟩ (fun r13 hqr13 hF => ?_)
  cases hF
  exact hr _ _ dX1_openByLimits_100
set_option maxHeartbeats 4000000 in
set_option maxRecDepth 20000 in
theorem vX1_openByLimits_80 {p : Program} {l : Launch} {e : Env} {s : State} {m : MethodId} {args : Array Value} {below : List Frame} {meth : Method} {c : Code} {D : va_G} {A : Nat → Prop} {Q : State → Prop} {cy : Nat → ClassId} {ad fad : Nat → Nat} {res : St_} (C : vv_X p s m args meth c D (tysW cy) A 5 cX1_openByLimits RX1 wsX1_openByLimits) (h0 : eX A s) (hr : rt_V p l e rmX1_openByLimits s m args below meth c D A 5 Q cX1_openByLimits (wX cy ad fad res)) : ∀ (x3 : Int32) (x4 : Int32) (t0 : Int32) (t1 : Int32) (t2 : Int32) (σ : St_), fX1_openByLimits_80  x3 x4 t0 t1 t2 σ = some res → vv_ p l e rmX1_openByLimits s m args below meth c D A 5 Q 0 0 (wX cy ad fad σ) [(0, .ref (ad 27)), (3, .int x3), (4, .int x4)] 80 [.int t0, .int t1, .int t2, .ref (ad 27)] := by
  intro x3 x4 t0 t1 t2 σ hF
  replace hF : (bn_ (fX1_setWay t2 t1 t0 σ) fun r11 => (if x4 ≤ 0 then fX1_openByLimits_97  0 x3 21 r11 else fX1_openByLimits_97  1 x3 21 r11)) = some res := hF
  refine vv_callVv  (fun r11 => (wX cy ad fad r11)) C eX_ok h0 [.int t2, .int t1, .int t0] [] 3 hF (fun r11 hr11 => kX1_setWay l D cy ad fad t2 t1 t0 σ r11  hr11) gX1_openByLimits_X1_setWay rfl rfl rfl (by decide +kernel) ⟨by decide, by decide⟩ 27 (wX_g27 cy ad fad _) rfl rfl rfl (Nat.le_of_ble_eq_true rfl) dX1_openByLimits_80 ⟨by decide, by decide⟩ (fun r11 hqr11 hF => ?_)
  refine vv_aload_n C dX1_openByLimits_83 0 rfl ?_
  refine vv_bipush (v := 21) C dX1_openByLimits_84 (by decide) ?_
  refine vv_iload_n C dX1_openByLimits_86 1 rfl ?_
  refine vv_iload C dX1_openByLimits_87 2 rfl ?_
  refine vv_if_le (tgt := 96) C dX1_openByLimits_89 (by decide) hF (fun c12 hF => ?_) (fun c12 hF => ?_)
  · refine vv_iconst (v := 0) C dX1_openByLimits_96 (by decide) ?_
    refine vv_lv [] rfl ?_
    exact vX1_openByLimits_97 C h0 hr  0 x3 21 r11  hF
  · refine vv_iconst (v := 1) C dX1_openByLimits_92 (by decide) ?_
    refine vv_goto (tgt := 97) C dX1_openByLimits_93 (by decide) ?_
    refine vv_lv [] rfl ?_
    exact vX1_openByLimits_97 C h0 hr  1 x3 21 r11  hF
set_option maxHeartbeats 4000000 in
set_option maxRecDepth 20000 in
theorem vX1_openByLimits_59 {p : Program} {l : Launch} {e : Env} {s : State} {m : MethodId} {args : Array Value} {below : List Frame} {meth : Method} {c : Code} {D : va_G} {A : Nat → Prop} {Q : State → Prop} {cy : Nat → ClassId} {ad fad : Nat → Nat} {res : St_} (C : vv_X p s m args meth c D (tysW cy) A 5 cX1_openByLimits RX1 wsX1_openByLimits) (h0 : eX A s) (hr : rt_V p l e rmX1_openByLimits s m args below meth c D A 5 Q cX1_openByLimits (wX cy ad fad res)) : ∀ (x3 : Int32) (x4 : Int32) (t0 : Int32) (t1 : Int32) (t2 : Int32) (σ : St_), fX1_openByLimits_59  x3 x4 t0 t1 t2 σ = some res → vv_ p l e rmX1_openByLimits s m args below meth c D A 5 Q 0 0 (wX cy ad fad σ) [(0, .ref (ad 27)), (3, .int x3), (4, .int x4)] 59 [.int t0, .int t1, .int t2, .ref (ad 27)] := by
  intro x3 x4 t0 t1 t2 σ hF
  replace hF : (bn_ (fX1_setWay t2 t1 t0 σ) fun r9 => (if (sS r9 3) ≤ x4 then fX1_openByLimits_80  x3 x4 0 21 x3 r9 else fX1_openByLimits_80  x3 x4 1 21 x3 r9)) = some res := hF
  refine vv_callVv  (fun r9 => (wX cy ad fad r9)) C eX_ok h0 [.int t2, .int t1, .int t0] [] 3 hF (fun r9 hr9 => kX1_setWay l D cy ad fad t2 t1 t0 σ r9  hr9) gX1_openByLimits_X1_setWay rfl rfl rfl (by decide +kernel) ⟨by decide, by decide⟩ 27 (wX_g27 cy ad fad _) rfl rfl rfl (Nat.le_of_ble_eq_true rfl) dX1_openByLimits_59 ⟨by decide, by decide⟩ (fun r9 hqr9 hF => ?_)
  refine vv_aload_n C dX1_openByLimits_62 0 rfl ?_
  refine vv_iload_n C dX1_openByLimits_63 1 rfl ?_
  refine vv_bipush (v := 21) C dX1_openByLimits_64 (by decide) ?_
  refine vv_iload C dX1_openByLimits_66 2 rfl ?_
  refine vv_aload_n C dX1_openByLimits_68 0 rfl ?_
  refine vv_get (v := .int (sS r9 3)) C (hi_X1_openByLimits_X1) 27 (wX_g27 cy ad fad _) rfl 5 (by decide) (List.mem_of_getElem? (i := 4) rfl) rfl dX1_openByLimits_69 ?_
  refine vv_icmp_ge (tgt := 79) C dX1_openByLimits_72 (by decide) hF (fun c10 hF => ?_) (fun c10 hF => ?_)
  · refine vv_iconst (v := 0) C dX1_openByLimits_79 (by decide) ?_
    refine vv_lv [0, 1, 2] rfl ?_
    exact vX1_openByLimits_80 C h0 hr  x3 x4 0 21 x3 r9  hF
  · refine vv_iconst (v := 1) C dX1_openByLimits_75 (by decide) ?_
    refine vv_goto (tgt := 80) C dX1_openByLimits_76 (by decide) ?_
    refine vv_lv [0, 1, 2] rfl ?_
    exact vX1_openByLimits_80 C h0 hr  x3 x4 1 21 x3 r9  hF
set_option maxHeartbeats 4000000 in
set_option maxRecDepth 20000 in
theorem vX1_openByLimits_38 {p : Program} {l : Launch} {e : Env} {s : State} {m : MethodId} {args : Array Value} {below : List Frame} {meth : Method} {c : Code} {D : va_G} {A : Nat → Prop} {Q : State → Prop} {cy : Nat → ClassId} {ad fad : Nat → Nat} {res : St_} (C : vv_X p s m args meth c D (tysW cy) A 5 cX1_openByLimits RX1 wsX1_openByLimits) (h0 : eX A s) (hr : rt_V p l e rmX1_openByLimits s m args below meth c D A 5 Q cX1_openByLimits (wX cy ad fad res)) : ∀ (x1 : Int32) (x3 : Int32) (x4 : Int32) (t0 : Int32) (t1 : Int32) (t2 : Int32) (σ : St_), fX1_openByLimits_38  x1 x3 x4 t0 t1 t2 σ = some res → vv_ p l e rmX1_openByLimits s m args below meth c D A 5 Q 0 0 (wX cy ad fad σ) [(0, .ref (ad 27)), (1, .int x1), (3, .int x3), (4, .int x4)] 38 [.int t0, .int t1, .int t2, .ref (ad 27)] := by
  intro x1 x3 x4 t0 t1 t2 σ hF
  replace hF : (bn_ (fX1_setWay t2 t1 t0 σ) fun r6 => (gd_ x1 10 fun j7 => (if (sM r6 9 j7) ≤ 0 then fX1_openByLimits_59  x3 x4 0 20 x1 r6 else fX1_openByLimits_59  x3 x4 1 20 x1 r6))) = some res := hF
  refine vv_callVv  (fun r6 => (wX cy ad fad r6)) C eX_ok h0 [.int t2, .int t1, .int t0] [] 3 hF (fun r6 hr6 => kX1_setWay l D cy ad fad t2 t1 t0 σ r6  hr6) gX1_openByLimits_X1_setWay rfl rfl rfl (by decide +kernel) ⟨by decide, by decide⟩ 27 (wX_g27 cy ad fad _) rfl rfl rfl (Nat.le_of_ble_eq_true rfl) dX1_openByLimits_38 ⟨by decide, by decide⟩ (fun r6 hqr6 hF => ?_)
  refine vv_aload_n C dX1_openByLimits_41 0 rfl ?_
  refine vv_iload_n C dX1_openByLimits_42 1 rfl ?_
  refine vv_bipush (v := 20) C dX1_openByLimits_43 (by decide) ?_
  refine vv_aload_n C dX1_openByLimits_45 0 rfl ?_
  refine vv_get (v := .ref (ad 9)) C (hi_X1_openByLimits_X1) 27 (wX_g27 cy ad fad _) rfl 4 (by decide) (List.mem_of_getElem? (i := 2) rfl) rfl dX1_openByLimits_46 ?_
  refine vv_iload_n C dX1_openByLimits_49 1 rfl ?_
  refine vv_iald C 9 0 (wX_g9 cy ad fad _) (tysW_0 cy) hF dX1_openByLimits_50 (fun j7 hj7 hF => ?_)
  refine vv_if_le (tgt := 58) C dX1_openByLimits_51 (by decide) hF (fun c8 hF => ?_) (fun c8 hF => ?_)
  · refine vv_iconst (v := 0) C dX1_openByLimits_58 (by decide) ?_
    refine vv_lv [0, 2, 3] rfl ?_
    exact vX1_openByLimits_59 C h0 hr  x3 x4 0 20 x1 r6  hF
  · refine vv_iconst (v := 1) C dX1_openByLimits_54 (by decide) ?_
    refine vv_goto (tgt := 59) C dX1_openByLimits_55 (by decide) ?_
    refine vv_lv [0, 2, 3] rfl ?_
    exact vX1_openByLimits_59 C h0 hr  x3 x4 1 20 x1 r6  hF
set_option maxHeartbeats 4000000 in
set_option maxRecDepth 20000 in
theorem kX1_openByLimits (l : Launch) (D : va_G) (cy : Nat → ClassId) (ad fad : Nat → Nat) (x1 : Int32) (x2 : Int32) (σ : St_) (res : St_)  (hF : fX1_openByLimits x1 x2 σ = some res) : ct_V l D (tysW cy) eX yX1_openByLimits wsX1_openByLimits rmX1_openByLimits [.ref (ad 27), .int x1, .int x2] (wX cy ad fad σ) (wX cy ad fad res) := by
  refine mt_V (by decide) rfl (Nat.le_of_ble_eq_true rfl) ?_
  intro p e s m args below meth c A Q C h0 hr
  replace C : vv_X p s m args meth c D (tysW cy) A 5 cX1_openByLimits RX1 wsX1_openByLimits := C
  replace hF : (bn_ (fX1_placeVisited x2) fun r1 => (gd_ x2 10 fun j2 => (bn_ (fJ6_bitCount_0f7a4 (sM σ 8 j2)) fun r3 => (gd_ x1 10 fun j4 => (if (sS σ 4) ≤ (sM σ 9 j4) then fX1_openByLimits_38  x1 r1 r3 0 x1 20 σ else fX1_openByLimits_38  x1 r1 r3 1 x1 20 σ))))) = some res := hF
  refine vv_lv [0, 1, 2] (lv' := [(0, .ref (ad 27)), (1, .int x1), (2, .int x2)]) rfl ?_
  refine vv_iload_n C dX1_openByLimits_0 2 rfl ?_
  refine vv_callSi (fun r1 => r1) (fun r1 => (wX cy ad fad σ)) C eX_ok h0 [.int x2] [] 1 hF (fun r1 hr1 => kX1_placeVisited l D (tysW cy) eX_ok (wX cy ad fad σ) x2 r1  hr1) gX1_openByLimits_X1_placeVisited rfl rfl rfl (by decide +kernel) ⟨by decide, by decide⟩ rfl rfl (Nat.le_of_ble_eq_true rfl) dX1_openByLimits_1 ⟨by decide, by decide⟩ (fun r1 hqr1 hF => ?_)
  refine vv_istore_n (lv' := [(3, .int r1), (0, .ref (ad 27)), (1, .int x1), (2, .int x2)]) C dX1_openByLimits_4 (by decide) rfl ?_
  refine vv_aload_n C dX1_openByLimits_5 1 rfl ?_
  refine vv_get (v := .ref (ad 8)) C (hi_X1_openByLimits_X1) 27 (wX_g27 cy ad fad _) rfl 3 (by decide) (List.mem_of_getElem? (i := 1) rfl) rfl dX1_openByLimits_6 ?_
  refine vv_iload_n C dX1_openByLimits_9 3 rfl ?_
  refine vv_iald C 8 0 (wX_g8 cy ad fad _) (tysW_0 cy) hF dX1_openByLimits_10 (fun j2 hj2 hF => ?_)
  refine vv_callSi (fun r3 => r3) (fun r3 => (wX cy ad fad σ)) C eX_ok h0 [.int (sM σ 8 j2)] [] 1 hF (fun r3 hr3 => kJ6_bitCount_0f7a4 l D (tysW cy) eX_ok (wX cy ad fad σ) (sM σ 8 j2) r3  hr3) gX1_openByLimits_J6_bitCount_0f7a4 rfl rfl rfl (by decide +kernel) ⟨by decide, by decide⟩ rfl rfl (Nat.le_of_ble_eq_true rfl) dX1_openByLimits_11 ⟨by decide, by decide⟩ (fun r3 hqr3 hF => ?_)
  refine vv_istore (lv' := [(4, .int r3), (3, .int r1), (0, .ref (ad 27)), (1, .int x1), (2, .int x2)]) C dX1_openByLimits_14 (by decide) rfl ?_
  refine vv_aload_n C dX1_openByLimits_16 2 rfl ?_
  refine vv_bipush (v := 20) C dX1_openByLimits_17 (by decide) ?_
  refine vv_iload_n C dX1_openByLimits_19 3 rfl ?_
  refine vv_aload_n C dX1_openByLimits_20 2 rfl ?_
  refine vv_get (v := .ref (ad 9)) C (hi_X1_openByLimits_X1) 27 (wX_g27 cy ad fad _) rfl 4 (by decide) (List.mem_of_getElem? (i := 2) rfl) rfl dX1_openByLimits_21 ?_
  refine vv_iload_n C dX1_openByLimits_24 3 rfl ?_
  refine vv_iald C 9 0 (wX_g9 cy ad fad _) (tysW_0 cy) hF dX1_openByLimits_25 (fun j4 hj4 hF => ?_)
  refine vv_aload_n C dX1_openByLimits_26 2 rfl ?_
  refine vv_get (v := .int (sS σ 4)) C (hi_X1_openByLimits_X1) 27 (wX_g27 cy ad fad _) rfl 6 (by decide) (List.mem_of_getElem? (i := 3) rfl) rfl dX1_openByLimits_27 ?_
  refine vv_icmp_ge (tgt := 37) C dX1_openByLimits_30 (by decide) hF (fun c5 hF => ?_) (fun c5 hF => ?_)
  · refine vv_iconst (v := 0) C dX1_openByLimits_37 (by decide) ?_
    refine vv_lv [2, 3, 1, 0] rfl ?_
    exact vX1_openByLimits_38 C h0 hr  x1 r1 r3 0 x1 20 σ  hF
  · refine vv_iconst (v := 1) C dX1_openByLimits_33 (by decide) ?_
    refine vv_goto (tgt := 38) C dX1_openByLimits_34 (by decide) ?_
    refine vv_lv [2, 3, 1, 0] rfl ?_
    exact vX1_openByLimits_38 C h0 hr  x1 r1 r3 1 x1 20 σ  hF
/-! X1_allow -/
abbrev rmX1_allow : Room := { frames := 2, cells := 0, slots := 0, locals := 47 }
def fX1_allow (x1 : Int32) (x2 : Int32) (σ : St_) : Option St_ := (bn_ (fX1_placeVisited x2) fun r1 => (bn_ (fX1_setWay x1 r1 1 σ) fun r2 => (bn_ (fX1_openByLimits x1 x2 r2) fun r3 => some r3)))
set_option maxHeartbeats 4000000 in
set_option maxRecDepth 20000 in
theorem kX1_allow (l : Launch) (D : va_G) (cy : Nat → ClassId) (ad fad : Nat → Nat) (x1 : Int32) (x2 : Int32) (σ : St_) (res : St_)  (hF : fX1_allow x1 x2 σ = some res) : ct_V l D (tysW cy) eX yX1_allow wsX1_allow rmX1_allow [.ref (ad 27), .int x1, .int x2] (wX cy ad fad σ) (wX cy ad fad res) := by
  refine mt_V (by decide) rfl (Nat.le_of_ble_eq_true rfl) ?_
  intro p e s m args below meth c A Q C h0 hr
  replace C : vv_X p s m args meth c D (tysW cy) A 3 cX1_allow RX1 wsX1_allow := C
  replace hF : (bn_ (fX1_placeVisited x2) fun r1 => (bn_ (fX1_setWay x1 r1 1 σ) fun r2 => (bn_ (fX1_openByLimits x1 x2 r2) fun r3 => some r3))) = some res := hF
  refine vv_lv [0, 1, 2] (lv' := [(0, .ref (ad 27)), (1, .int x1), (2, .int x2)]) rfl ?_
  refine vv_aload_n C dX1_allow_0 0 rfl ?_
  refine vv_iload_n C dX1_allow_1 1 rfl ?_
  refine vv_iload_n C dX1_allow_2 2 rfl ?_
  refine vv_callSi (fun r1 => r1) (fun r1 => (wX cy ad fad σ)) C eX_ok h0 [.int x2] [.int x1, .ref (ad 27)] 1 hF (fun r1 hr1 => kX1_placeVisited l D (tysW cy) eX_ok (wX cy ad fad σ) x2 r1  hr1) gX1_allow_X1_placeVisited rfl rfl rfl (by decide +kernel) ⟨by decide, by decide⟩ rfl rfl (Nat.le_of_ble_eq_true rfl) dX1_allow_3 ⟨by decide, by decide⟩ (fun r1 hqr1 hF => ?_)
  refine vv_iconst (v := 1) C dX1_allow_6 (by decide) ?_
  refine vv_callVv  (fun r2 => (wX cy ad fad r2)) C eX_ok h0 [.int x1, .int r1, .int 1] [] 3 hF (fun r2 hr2 => kX1_setWay l D cy ad fad x1 r1 1 σ r2  hr2) gX1_allow_X1_setWay rfl rfl rfl (by decide +kernel) ⟨by decide, by decide⟩ 27 (wX_g27 cy ad fad _) rfl rfl rfl (Nat.le_of_ble_eq_true rfl) dX1_allow_7 ⟨by decide, by decide⟩ (fun r2 hqr2 hF => ?_)
  refine vv_aload_n C dX1_allow_10 0 rfl ?_
  refine vv_iload_n C dX1_allow_11 1 rfl ?_
  refine vv_iload_n C dX1_allow_12 2 rfl ?_
  refine vv_callVv  (fun r3 => (wX cy ad fad r3)) C eX_ok h0 [.int x1, .int x2] [] 2 hF (fun r3 hr3 => kX1_openByLimits l D cy ad fad x1 x2 r2 r3  hr3) gX1_allow_X1_openByLimits rfl rfl rfl (by decide +kernel) ⟨by decide, by decide⟩ 27 (wX_g27 cy ad fad _) rfl rfl rfl (Nat.le_of_ble_eq_true rfl) dX1_allow_13 ⟨by decide, by decide⟩ (fun r3 hqr3 hF => ?_)
  cases hF
  exact hr _ _ dX1_allow_16
/-! X1_addVisit -/
abbrev rmX1_addVisit : Room := { frames := 2, cells := 0, slots := 0, locals := 47 }
theorem hi_X1_addVisit_X1 : ∀ w ∈ wsX10, w ∈ wsX1_addVisit := fun w h => List.mem_cons_of_mem _ (List.mem_append_right _ h)
def fX1_addVisit (x1 : Int32) (x2 : Int32) (σ : St_) : Option St_ := (gd_ x2 10 fun j1 => (gd_ x2 10 fun j2 => (gd_ x1 10 fun j3 => (gd_ x1 10 fun j4 => (bn_ (fX1_placeVisited x2) fun r5 => (bn_ (fX1_setWay x1 r5 0 (uM (uM σ 8 j2 ((sM σ 8 j1) ||| (1 <<< (x1 &&& 31)))) 9 j4 ((sM (uM σ 8 j2 ((sM σ 8 j1) ||| (1 <<< (x1 &&& 31)))) 9 j3) + 1))) fun r6 => (bn_ (fX1_placeVisited x2) fun r7 => (bn_ (fX1_setWay r7 x1 1 r6) fun r8 => (bn_ (fX1_openByLimits x1 x2 r8) fun r9 => some r9)))))))))
set_option maxHeartbeats 4000000 in
set_option maxRecDepth 20000 in
theorem kX1_addVisit (l : Launch) (D : va_G) (cy : Nat → ClassId) (ad fad : Nat → Nat) (x1 : Int32) (x2 : Int32) (σ : St_) (res : St_)  (hF : fX1_addVisit x1 x2 σ = some res) : ct_V l D (tysW cy) eX yX1_addVisit wsX1_addVisit rmX1_addVisit [.ref (ad 27), .int x1, .int x2] (wX cy ad fad σ) (wX cy ad fad res) := by
  refine mt_V (by decide) rfl (Nat.le_of_ble_eq_true rfl) ?_
  intro p e s m args below meth c A Q C h0 hr
  replace C : vv_X p s m args meth c D (tysW cy) A 3 cX1_addVisit RX1 wsX1_addVisit := C
  replace hF : (gd_ x2 10 fun j1 => (gd_ x2 10 fun j2 => (gd_ x1 10 fun j3 => (gd_ x1 10 fun j4 => (bn_ (fX1_placeVisited x2) fun r5 => (bn_ (fX1_setWay x1 r5 0 (uM (uM σ 8 j2 ((sM σ 8 j1) ||| (1 <<< (x1 &&& 31)))) 9 j4 ((sM (uM σ 8 j2 ((sM σ 8 j1) ||| (1 <<< (x1 &&& 31)))) 9 j3) + 1))) fun r6 => (bn_ (fX1_placeVisited x2) fun r7 => (bn_ (fX1_setWay r7 x1 1 r6) fun r8 => (bn_ (fX1_openByLimits x1 x2 r8) fun r9 => some r9))))))))) = some res := hF
  refine vv_lv [0, 1, 2] (lv' := [(0, .ref (ad 27)), (1, .int x1), (2, .int x2)]) rfl ?_
  refine vv_aload_n C dX1_addVisit_0 0 rfl ?_
  refine vv_get (v := .ref (ad 8)) C (hi_X1_addVisit_X1) 27 (wX_g27 cy ad fad _) rfl 3 (by decide) (List.mem_of_getElem? (i := 1) rfl) rfl dX1_addVisit_1 ?_
  refine vv_iload_n C dX1_addVisit_4 2 rfl ?_
  refine vv_dup2 C dX1_addVisit_5 rfl rfl ?_
  refine vv_iald C 8 0 (wX_g8 cy ad fad _) (tysW_0 cy) hF dX1_addVisit_6 (fun j1 hj1 hF => ?_)
  refine vv_iconst (v := 1) C dX1_addVisit_7 (by decide) ?_
  refine vv_iload_n C dX1_addVisit_8 1 rfl ?_
  refine vv_ishl C dX1_addVisit_9 ?_
  refine vv_ior C dX1_addVisit_10 ?_
  refine vv_iast (w' := fun j2 => (wX cy ad fad (uM σ 8 j2 ((sM σ 8 j1) ||| (1 <<< (x1 &&& 31)))))) C 8 0 (wX_g8 cy ad fad _) (tysW_0 cy) hF dX1_addVisit_11 (fun _ => wX_a8 _ _ _ _ _) (fun j2 hj2 hF => ?_)
  refine vv_aload_n C dX1_addVisit_12 0 rfl ?_
  refine vv_get (v := .ref (ad 9)) C (hi_X1_addVisit_X1) 27 (wX_g27 cy ad fad _) rfl 4 (by decide) (List.mem_of_getElem? (i := 2) rfl) rfl dX1_addVisit_13 ?_
  refine vv_iload_n C dX1_addVisit_16 1 rfl ?_
  refine vv_dup2 C dX1_addVisit_17 rfl rfl ?_
  refine vv_iald C 9 0 (wX_g9 cy ad fad _) (tysW_0 cy) hF dX1_addVisit_18 (fun j3 hj3 hF => ?_)
  refine vv_iconst (v := 1) C dX1_addVisit_19 (by decide) ?_
  refine vv_iadd C dX1_addVisit_20 ?_
  refine vv_iast (w' := fun j4 => (wX cy ad fad (uM (uM σ 8 j2 ((sM σ 8 j1) ||| (1 <<< (x1 &&& 31)))) 9 j4 ((sM (uM σ 8 j2 ((sM σ 8 j1) ||| (1 <<< (x1 &&& 31)))) 9 j3) + 1)))) C 9 0 (wX_g9 cy ad fad _) (tysW_0 cy) hF dX1_addVisit_21 (fun _ => wX_a9 _ _ _ _ _) (fun j4 hj4 hF => ?_)
  refine vv_aload_n C dX1_addVisit_22 0 rfl ?_
  refine vv_iload_n C dX1_addVisit_23 1 rfl ?_
  refine vv_iload_n C dX1_addVisit_24 2 rfl ?_
  refine vv_callSi (fun r5 => r5) (fun r5 => (wX cy ad fad (uM (uM σ 8 j2 ((sM σ 8 j1) ||| (1 <<< (x1 &&& 31)))) 9 j4 ((sM (uM σ 8 j2 ((sM σ 8 j1) ||| (1 <<< (x1 &&& 31)))) 9 j3) + 1)))) C eX_ok h0 [.int x2] [.int x1, .ref (ad 27)] 1 hF (fun r5 hr5 => kX1_placeVisited l D (tysW cy) eX_ok (wX cy ad fad (uM (uM σ 8 j2 ((sM σ 8 j1) ||| (1 <<< (x1 &&& 31)))) 9 j4 ((sM (uM σ 8 j2 ((sM σ 8 j1) ||| (1 <<< (x1 &&& 31)))) 9 j3) + 1))) x2 r5  hr5) gX1_addVisit_X1_placeVisited rfl rfl rfl (by decide +kernel) ⟨by decide, by decide⟩ rfl rfl (Nat.le_of_ble_eq_true rfl) dX1_addVisit_25 ⟨by decide, by decide⟩ (fun r5 hqr5 hF => ?_)
  refine vv_iconst (v := 0) C dX1_addVisit_28 (by decide) ?_
  refine vv_callVv  (fun r6 => (wX cy ad fad r6)) C eX_ok h0 [.int x1, .int r5, .int 0] [] 3 hF (fun r6 hr6 => kX1_setWay l D cy ad fad x1 r5 0 (uM (uM σ 8 j2 ((sM σ 8 j1) ||| (1 <<< (x1 &&& 31)))) 9 j4 ((sM (uM σ 8 j2 ((sM σ 8 j1) ||| (1 <<< (x1 &&& 31)))) 9 j3) + 1)) r6  hr6) gX1_addVisit_X1_setWay rfl rfl rfl (by decide +kernel) ⟨by decide, by decide⟩ 27 (wX_g27 cy ad fad _) rfl rfl rfl (Nat.le_of_ble_eq_true rfl) dX1_addVisit_29 ⟨by decide, by decide⟩ (fun r6 hqr6 hF => ?_)
  refine vv_aload_n C dX1_addVisit_32 0 rfl ?_
  refine vv_iload_n C dX1_addVisit_33 2 rfl ?_
  refine vv_callSi (fun r7 => r7) (fun r7 => (wX cy ad fad r6)) C eX_ok h0 [.int x2] [.ref (ad 27)] 1 hF (fun r7 hr7 => kX1_placeVisited l D (tysW cy) eX_ok (wX cy ad fad r6) x2 r7  hr7) gX1_addVisit_X1_placeVisited rfl rfl rfl (by decide +kernel) ⟨by decide, by decide⟩ rfl rfl (Nat.le_of_ble_eq_true rfl) dX1_addVisit_34 ⟨by decide, by decide⟩ (fun r7 hqr7 hF => ?_)
  refine vv_iload_n C dX1_addVisit_37 1 rfl ?_
  refine vv_iconst (v := 1) C dX1_addVisit_38 (by decide) ?_
  refine vv_callVv  (fun r8 => (wX cy ad fad r8)) C eX_ok h0 [.int r7, .int x1, .int 1] [] 3 hF (fun r8 hr8 => kX1_setWay l D cy ad fad r7 x1 1 r6 r8  hr8) gX1_addVisit_X1_setWay rfl rfl rfl (by decide +kernel) ⟨by decide, by decide⟩ 27 (wX_g27 cy ad fad _) rfl rfl rfl (Nat.le_of_ble_eq_true rfl) dX1_addVisit_39 ⟨by decide, by decide⟩ (fun r8 hqr8 hF => ?_)
  refine vv_aload_n C dX1_addVisit_42 0 rfl ?_
  refine vv_iload_n C dX1_addVisit_43 1 rfl ?_
  refine vv_iload_n C dX1_addVisit_44 2 rfl ?_
  refine vv_callVv  (fun r9 => (wX cy ad fad r9)) C eX_ok h0 [.int x1, .int x2] [] 2 hF (fun r9 hr9 => kX1_openByLimits l D cy ad fad x1 x2 r8 r9  hr9) gX1_addVisit_X1_openByLimits rfl rfl rfl (by decide +kernel) ⟨by decide, by decide⟩ 27 (wX_g27 cy ad fad _) rfl rfl rfl (Nat.le_of_ble_eq_true rfl) dX1_addVisit_45 ⟨by decide, by decide⟩ (fun r9 hqr9 hF => ?_)
  cases hF
  exact hr _ _ dX1_addVisit_48
/-! X1_dropVisit -/
abbrev rmX1_dropVisit : Room := { frames := 2, cells := 0, slots := 0, locals := 47 }
theorem hi_X1_dropVisit_X1 : ∀ w ∈ wsX10, w ∈ wsX1_dropVisit := fun w h => List.mem_cons_of_mem _ (List.mem_append_right _ h)
def fX1_dropVisit (x1 : Int32) (x2 : Int32) (σ : St_) : Option St_ := (gd_ x2 10 fun j1 => (gd_ x2 10 fun j2 => (gd_ x1 10 fun j3 => (gd_ x1 10 fun j4 => (bn_ (fX1_placeVisited x2) fun r5 => (bn_ (fX1_setWay x1 r5 1 (uM (uM σ 8 j2 ((sM σ 8 j1) &&& ((1 <<< (x1 &&& 31)) ^^^ (-1)))) 9 j4 ((sM (uM σ 8 j2 ((sM σ 8 j1) &&& ((1 <<< (x1 &&& 31)) ^^^ (-1)))) 9 j3) - 1))) fun r6 => (bn_ (fX1_placeVisited x2) fun r7 => (bn_ (fX1_setWay r7 x1 0 r6) fun r8 => (bn_ (fX1_openByLimits x1 x2 r8) fun r9 => some r9)))))))))
set_option maxHeartbeats 4000000 in
set_option maxRecDepth 20000 in
theorem kX1_dropVisit (l : Launch) (D : va_G) (cy : Nat → ClassId) (ad fad : Nat → Nat) (x1 : Int32) (x2 : Int32) (σ : St_) (res : St_)  (hF : fX1_dropVisit x1 x2 σ = some res) : ct_V l D (tysW cy) eX yX1_dropVisit wsX1_dropVisit rmX1_dropVisit [.ref (ad 27), .int x1, .int x2] (wX cy ad fad σ) (wX cy ad fad res) := by
  refine mt_V (by decide) rfl (Nat.le_of_ble_eq_true rfl) ?_
  intro p e s m args below meth c A Q C h0 hr
  replace C : vv_X p s m args meth c D (tysW cy) A 3 cX1_dropVisit RX1 wsX1_dropVisit := C
  replace hF : (gd_ x2 10 fun j1 => (gd_ x2 10 fun j2 => (gd_ x1 10 fun j3 => (gd_ x1 10 fun j4 => (bn_ (fX1_placeVisited x2) fun r5 => (bn_ (fX1_setWay x1 r5 1 (uM (uM σ 8 j2 ((sM σ 8 j1) &&& ((1 <<< (x1 &&& 31)) ^^^ (-1)))) 9 j4 ((sM (uM σ 8 j2 ((sM σ 8 j1) &&& ((1 <<< (x1 &&& 31)) ^^^ (-1)))) 9 j3) - 1))) fun r6 => (bn_ (fX1_placeVisited x2) fun r7 => (bn_ (fX1_setWay r7 x1 0 r6) fun r8 => (bn_ (fX1_openByLimits x1 x2 r8) fun r9 => some r9))))))))) = some res := hF
  refine vv_lv [0, 1, 2] (lv' := [(0, .ref (ad 27)), (1, .int x1), (2, .int x2)]) rfl ?_
  refine vv_aload_n C dX1_dropVisit_0 0 rfl ?_
  refine vv_get (v := .ref (ad 8)) C (hi_X1_dropVisit_X1) 27 (wX_g27 cy ad fad _) rfl 3 (by decide) (List.mem_of_getElem? (i := 1) rfl) rfl dX1_dropVisit_1 ?_
  refine vv_iload_n C dX1_dropVisit_4 2 rfl ?_
  refine vv_dup2 C dX1_dropVisit_5 rfl rfl ?_
  refine vv_iald C 8 0 (wX_g8 cy ad fad _) (tysW_0 cy) hF dX1_dropVisit_6 (fun j1 hj1 hF => ?_)
  refine vv_iconst (v := 1) C dX1_dropVisit_7 (by decide) ?_
  refine vv_iload_n C dX1_dropVisit_8 1 rfl ?_
  refine vv_ishl C dX1_dropVisit_9 ?_
  refine vv_iconst (v := (-1)) C dX1_dropVisit_10 (by decide) ?_
  refine vv_ixor C dX1_dropVisit_11 ?_
  refine vv_iand C dX1_dropVisit_12 ?_
  refine vv_iast (w' := fun j2 => (wX cy ad fad (uM σ 8 j2 ((sM σ 8 j1) &&& ((1 <<< (x1 &&& 31)) ^^^ (-1)))))) C 8 0 (wX_g8 cy ad fad _) (tysW_0 cy) hF dX1_dropVisit_13 (fun _ => wX_a8 _ _ _ _ _) (fun j2 hj2 hF => ?_)
  refine vv_aload_n C dX1_dropVisit_14 0 rfl ?_
  refine vv_get (v := .ref (ad 9)) C (hi_X1_dropVisit_X1) 27 (wX_g27 cy ad fad _) rfl 4 (by decide) (List.mem_of_getElem? (i := 2) rfl) rfl dX1_dropVisit_15 ?_
  refine vv_iload_n C dX1_dropVisit_18 1 rfl ?_
  refine vv_dup2 C dX1_dropVisit_19 rfl rfl ?_
  refine vv_iald C 9 0 (wX_g9 cy ad fad _) (tysW_0 cy) hF dX1_dropVisit_20 (fun j3 hj3 hF => ?_)
  refine vv_iconst (v := 1) C dX1_dropVisit_21 (by decide) ?_
  refine vv_isub C dX1_dropVisit_22 ?_
  refine vv_iast (w' := fun j4 => (wX cy ad fad (uM (uM σ 8 j2 ((sM σ 8 j1) &&& ((1 <<< (x1 &&& 31)) ^^^ (-1)))) 9 j4 ((sM (uM σ 8 j2 ((sM σ 8 j1) &&& ((1 <<< (x1 &&& 31)) ^^^ (-1)))) 9 j3) - 1)))) C 9 0 (wX_g9 cy ad fad _) (tysW_0 cy) hF dX1_dropVisit_23 (fun _ => wX_a9 _ _ _ _ _) (fun j4 hj4 hF => ?_)
  refine vv_aload_n C dX1_dropVisit_24 0 rfl ?_
  refine vv_iload_n C dX1_dropVisit_25 1 rfl ?_
  refine vv_iload_n C dX1_dropVisit_26 2 rfl ?_
  refine vv_callSi (fun r5 => r5) (fun r5 => (wX cy ad fad (uM (uM σ 8 j2 ((sM σ 8 j1) &&& ((1 <<< (x1 &&& 31)) ^^^ (-1)))) 9 j4 ((sM (uM σ 8 j2 ((sM σ 8 j1) &&& ((1 <<< (x1 &&& 31)) ^^^ (-1)))) 9 j3) - 1)))) C eX_ok h0 [.int x2] [.int x1, .ref (ad 27)] 1 hF (fun r5 hr5 => kX1_placeVisited l D (tysW cy) eX_ok (wX cy ad fad (uM (uM σ 8 j2 ((sM σ 8 j1) &&& ((1 <<< (x1 &&& 31)) ^^^ (-1)))) 9 j4 ((sM (uM σ 8 j2 ((sM σ 8 j1) &&& ((1 <<< (x1 &&& 31)) ^^^ (-1)))) 9 j3) - 1))) x2 r5  hr5) gX1_dropVisit_X1_placeVisited rfl rfl rfl (by decide +kernel) ⟨by decide, by decide⟩ rfl rfl (Nat.le_of_ble_eq_true rfl) dX1_dropVisit_27 ⟨by decide, by decide⟩ (fun r5 hqr5 hF => ?_)
  refine vv_iconst (v := 1) C dX1_dropVisit_30 (by decide) ?_
  refine vv_callVv  (fun r6 => (wX cy ad fad r6)) C eX_ok h0 [.int x1, .int r5, .int 1] [] 3 hF (fun r6 hr6 => kX1_setWay l D cy ad fad x1 r5 1 (uM (uM σ 8 j2 ((sM σ 8 j1) &&& ((1 <<< (x1 &&& 31)) ^^^ (-1)))) 9 j4 ((sM (uM σ 8 j2 ((sM σ 8 j1) &&& ((1 <<< (x1 &&& 31)) ^^^ (-1)))) 9 j3) - 1)) r6  hr6) gX1_dropVisit_X1_setWay rfl rfl rfl (by decide +kernel) ⟨by decide, by decide⟩ 27 (wX_g27 cy ad fad _) rfl rfl rfl (Nat.le_of_ble_eq_true rfl) dX1_dropVisit_31 ⟨by decide, by decide⟩ (fun r6 hqr6 hF => ?_)
  refine vv_aload_n C dX1_dropVisit_34 0 rfl ?_
  refine vv_iload_n C dX1_dropVisit_35 2 rfl ?_
  refine vv_callSi (fun r7 => r7) (fun r7 => (wX cy ad fad r6)) C eX_ok h0 [.int x2] [.ref (ad 27)] 1 hF (fun r7 hr7 => kX1_placeVisited l D (tysW cy) eX_ok (wX cy ad fad r6) x2 r7  hr7) gX1_dropVisit_X1_placeVisited rfl rfl rfl (by decide +kernel) ⟨by decide, by decide⟩ rfl rfl (Nat.le_of_ble_eq_true rfl) dX1_dropVisit_36 ⟨by decide, by decide⟩ (fun r7 hqr7 hF => ?_)
  refine vv_iload_n C dX1_dropVisit_39 1 rfl ?_
  refine vv_iconst (v := 0) C dX1_dropVisit_40 (by decide) ?_
  refine vv_callVv  (fun r8 => (wX cy ad fad r8)) C eX_ok h0 [.int r7, .int x1, .int 0] [] 3 hF (fun r8 hr8 => kX1_setWay l D cy ad fad r7 x1 0 r6 r8  hr8) gX1_dropVisit_X1_setWay rfl rfl rfl (by decide +kernel) ⟨by decide, by decide⟩ 27 (wX_g27 cy ad fad _) rfl rfl rfl (Nat.le_of_ble_eq_true rfl) dX1_dropVisit_41 ⟨by decide, by decide⟩ (fun r8 hqr8 hF => ?_)
  refine vv_aload_n C dX1_dropVisit_44 0 rfl ?_
  refine vv_iload_n C dX1_dropVisit_45 1 rfl ?_
  refine vv_iload_n C dX1_dropVisit_46 2 rfl ?_
  refine vv_callVv  (fun r9 => (wX cy ad fad r9)) C eX_ok h0 [.int x1, .int x2] [] 2 hF (fun r9 hr9 => kX1_openByLimits l D cy ad fad x1 x2 r8 r9  hr9) gX1_dropVisit_X1_openByLimits rfl rfl rfl (by decide +kernel) ⟨by decide, by decide⟩ 27 (wX_g27 cy ad fad _) rfl rfl rfl (Nat.le_of_ble_eq_true rfl) dX1_dropVisit_47 ⟨by decide, by decide⟩ (fun r9 hqr9 hF => ?_)
  cases hF
  exact hr _ _ dX1_dropVisit_50
/-! X1_moveVisit -/
abbrev rmX1_moveVisit : Room := { frames := 3, cells := 0, slots := 0, locals := 69 }
def fX1_moveVisit_30 (x1 : Int32) (x2 : Int32) (σ : St_) : Option St_ := (if 10 ≤ x2 then some σ else (bn_ (fX5_isBelow (x1 - 10) 10) fun r5 => (if r5 = 0 then some σ else (bn_ (fX1_dropVisit x2 (x1 - 10) σ) fun r6 => some r6))))
def fX1_moveVisit (x1 : Int32) (x2 : Int32) (σ : St_) : Option St_ := (if 10 ≤ x1 then fX1_moveVisit_30  x1 x2 σ else (bn_ (fX5_isBelow (x2 - 10) 10) fun r1 => (if r1 = 0 then fX1_moveVisit_30  x1 x2 σ else (bn_ (fX1_addVisit x1 (x2 - 10) σ) fun r2 => some r2))))
set_option maxHeartbeats 4000000 in
set_option maxRecDepth 20000 in
theorem vX1_moveVisit_30 {p : Program} {l : Launch} {e : Env} {s : State} {m : MethodId} {args : Array Value} {below : List Frame} {meth : Method} {c : Code} {D : va_G} {A : Nat → Prop} {Q : State → Prop} {cy : Nat → ClassId} {ad fad : Nat → Nat} {res : St_} (C : vv_X p s m args meth c D (tysW cy) A 3 cX1_moveVisit RX1 wsX1_moveVisit) (h0 : eX A s) (hr : rt_V p l e rmX1_moveVisit s m args below meth c D A 3 Q cX1_moveVisit (wX cy ad fad res)) : ∀ (x1 : Int32) (x2 : Int32) (σ : St_), fX1_moveVisit_30  x1 x2 σ = some res → vv_ p l e rmX1_moveVisit s m args below meth c D A 3 Q 0 0 (wX cy ad fad σ) [(0, .ref (ad 27)), (1, .int x1), (2, .int x2)] 30 [] := by
  intro x1 x2 σ hF
  replace hF : (if 10 ≤ x2 then some σ else (bn_ (fX5_isBelow (x1 - 10) 10) fun r5 => (if r5 = 0 then some σ else (bn_ (fX1_dropVisit x2 (x1 - 10) σ) fun r6 => some r6)))) = some res := hF
  refine vv_iload_n C dX1_moveVisit_30 2 rfl ?_
  refine vv_bipush (v := 10) C dX1_moveVisit_31 (by decide) ?_
  refine vv_icmp_ge (tgt := 57) C dX1_moveVisit_33 (by decide) hF (fun c8 hF => ?_) (fun c8 hF => ?_)
  · cases hF
    exact hr _ _ dX1_moveVisit_57
  · refine vv_iload_n C dX1_moveVisit_36 1 rfl ?_
    refine vv_bipush (v := 10) C dX1_moveVisit_37 (by decide) ?_
    refine vv_isub C dX1_moveVisit_39 ?_
    refine vv_bipush (v := 10) C dX1_moveVisit_40 (by decide) ?_
    refine vv_callNi (fun r5 => r5) (fun r5 => (wX cy ad fad σ)) C eX_ok h0 [.int (x1 - 10), .int 10] [] 2 hF (fun r5 hr5 => kX5_isBelow l D (tysW cy) eX_ok (wX cy ad fad σ) (x1 - 10) 10 r5  hr5) gX1_moveVisit_X5_isBelow_n76 (eX_nX1_76 h0) (List.mem_of_getElem? (i := 2) rfl) (List.mem_of_getElem? (i := 1) rfl) rfl rfl rfl (by decide +kernel) ⟨by decide, by decide⟩ rfl rfl (Nat.le_of_ble_eq_true rfl) dX1_moveVisit_42 ⟨by decide, by decide⟩ (fun r5 hqr5 hF => ?_)
    refine vv_if_eq (tgt := 57) C dX1_moveVisit_45 (by decide) hF (fun c7 hF => ?_) (fun c7 hF => ?_)
    · cases hF
      exact hr _ _ dX1_moveVisit_57
    · refine vv_aload_n C dX1_moveVisit_48 0 rfl ?_
      refine vv_iload_n C dX1_moveVisit_49 2 rfl ?_
      refine vv_iload_n C dX1_moveVisit_50 1 rfl ?_
      refine vv_bipush (v := 10) C dX1_moveVisit_51 (by decide) ?_
      refine vv_isub C dX1_moveVisit_53 ?_
      refine vv_callVv  (fun r6 => (wX cy ad fad r6)) C eX_ok h0 [.int x2, .int (x1 - 10)] [] 2 hF (fun r6 hr6 => kX1_dropVisit l D cy ad fad x2 (x1 - 10) σ r6  hr6) gX1_moveVisit_X1_dropVisit rfl rfl rfl (by decide +kernel) ⟨by decide, by decide⟩ 27 (wX_g27 cy ad fad _) rfl rfl rfl (Nat.le_of_ble_eq_true rfl) dX1_moveVisit_54 ⟨by decide, by decide⟩ (fun r6 hqr6 hF => ?_)
      cases hF
      exact hr _ _ dX1_moveVisit_57
set_option maxHeartbeats 4000000 in
set_option maxRecDepth 20000 in
theorem kX1_moveVisit (l : Launch) (D : va_G) (cy : Nat → ClassId) (ad fad : Nat → Nat) (x1 : Int32) (x2 : Int32) (σ : St_) (res : St_)  (hF : fX1_moveVisit x1 x2 σ = some res) : ct_V l D (tysW cy) eX yX1_moveVisit wsX1_moveVisit rmX1_moveVisit [.ref (ad 27), .int x1, .int x2] (wX cy ad fad σ) (wX cy ad fad res) := by
  refine mt_V (by decide) rfl (Nat.le_of_ble_eq_true rfl) ?_
  intro p e s m args below meth c A Q C h0 hr
  replace C : vv_X p s m args meth c D (tysW cy) A 3 cX1_moveVisit RX1 wsX1_moveVisit := C
  replace hF : (if 10 ≤ x1 then fX1_moveVisit_30  x1 x2 σ else (bn_ (fX5_isBelow (x2 - 10) 10) fun r1 => (if r1 = 0 then fX1_moveVisit_30  x1 x2 σ else (bn_ (fX1_addVisit x1 (x2 - 10) σ) fun r2 => some r2)))) = some res := hF
  refine vv_lv [0, 1, 2] (lv' := [(0, .ref (ad 27)), (1, .int x1), (2, .int x2)]) rfl ?_
  refine vv_iload_n C dX1_moveVisit_0 1 rfl ?_
  refine vv_bipush (v := 10) C dX1_moveVisit_1 (by decide) ?_
  refine vv_icmp_ge (tgt := 30) C dX1_moveVisit_3 (by decide) hF (fun c4 hF => ?_) (fun c4 hF => ?_)
  · refine vv_lv [0, 1, 2] rfl ?_
    exact vX1_moveVisit_30 C h0 hr  x1 x2 σ  hF
  · refine vv_iload_n C dX1_moveVisit_6 2 rfl ?_
    refine vv_bipush (v := 10) C dX1_moveVisit_7 (by decide) ?_
    refine vv_isub C dX1_moveVisit_9 ?_
    refine vv_bipush (v := 10) C dX1_moveVisit_10 (by decide) ?_
    refine vv_callNi (fun r1 => r1) (fun r1 => (wX cy ad fad σ)) C eX_ok h0 [.int (x2 - 10), .int 10] [] 2 hF (fun r1 hr1 => kX5_isBelow l D (tysW cy) eX_ok (wX cy ad fad σ) (x2 - 10) 10 r1  hr1) gX1_moveVisit_X5_isBelow_n76 (eX_nX1_76 h0) (List.mem_of_getElem? (i := 2) rfl) (List.mem_of_getElem? (i := 1) rfl) rfl rfl rfl (by decide +kernel) ⟨by decide, by decide⟩ rfl rfl (Nat.le_of_ble_eq_true rfl) dX1_moveVisit_12 ⟨by decide, by decide⟩ (fun r1 hqr1 hF => ?_)
    refine vv_if_eq (tgt := 30) C dX1_moveVisit_15 (by decide) hF (fun c3 hF => ?_) (fun c3 hF => ?_)
    · refine vv_lv [0, 1, 2] rfl ?_
      exact vX1_moveVisit_30 C h0 hr  x1 x2 σ  hF
    · refine vv_aload_n C dX1_moveVisit_18 0 rfl ?_
      refine vv_iload_n C dX1_moveVisit_19 1 rfl ?_
      refine vv_iload_n C dX1_moveVisit_20 2 rfl ?_
      refine vv_bipush (v := 10) C dX1_moveVisit_21 (by decide) ?_
      refine vv_isub C dX1_moveVisit_23 ?_
      refine vv_callVv  (fun r2 => (wX cy ad fad r2)) C eX_ok h0 [.int x1, .int (x2 - 10)] [] 2 hF (fun r2 hr2 => kX1_addVisit l D cy ad fad x1 (x2 - 10) σ r2  hr2) gX1_moveVisit_X1_addVisit rfl rfl rfl (by decide +kernel) ⟨by decide, by decide⟩ 27 (wX_g27 cy ad fad _) rfl rfl rfl (Nat.le_of_ble_eq_true rfl) dX1_moveVisit_24 ⟨by decide, by decide⟩ (fun r2 hqr2 hF => ?_)
      refine vv_goto (tgt := 57) C dX1_moveVisit_27 (by decide) ?_
      cases hF
      exact hr _ _ dX1_moveVisit_57
/-! X1_findPath -/
abbrev rmX1_findPath : Room := { frames := 2, cells := 0, slots := 0, locals := 40 }
theorem hi_X1_findPath_X1 : ∀ w ∈ wsX10, w ∈ wsX1_findPath := fun w h => List.mem_cons_of_mem _ (List.mem_append_right _ h)
def fX1_findPath_114 (k17 : Int32 → Int32 → Int32 → Int32 → St_ → Option (Int32 × St_)) (x2 : Int32) (x3 : Int32) (x4 : Int32) (x5 : Int32) (σ : St_) : Option (Int32 × St_) := (bn_ (fX5_hasBit x3 x2) fun r11 => (if r11 = 0 then k17 x2 x3 x4 (x5 + 1) σ else some (1, σ)))
def fX1_findPath_62 (k17 : Int32 → Int32 → Int32 → Int32 → St_ → Option (Int32 × St_)) : Nat → Int32 → Int32 → Int32 → Int32 → Int32 → Int32 → St_ → Option (Int32 × St_)
  | 0, _, _, _, _, _, _, _ => none
  | n + 1, x2, x3, x4, x5, x6, x8, σ => (if x8 = 0 then fX1_findPath_114 (k17) x2 x3 x4 x5 σ else (if 22 ≤ x4 then fX1_findPath_114 (k17) x2 x3 x4 x5 σ else (bn_ (fX1_lowestBit x8) fun r6 => (gd_ r6 22 fun j7 => (gd_ x4 22 fun j8 => fX1_findPath_62 k17 n x2 x3 (x4 + 1) x5 x6 (x8 &&& (x8 - 1)) (uM (uM σ 6 j7 x6) 7 j8 r6))))))
def fX1_findPath_17 : Nat → Int32 → Int32 → Int32 → Int32 → St_ → Option (Int32 × St_)
  | 0, _, _, _, _, _ => none
  | n + 1, x2, x3, x4, x5, σ => (if x4 ≤ x5 then some (0, σ) else (if 22 ≤ x5 then some (0, σ) else (gd_ x5 22 fun j2 => (gd_ (sM σ 7 j2) 22 fun j3 => fX1_findPath_62 (fX1_findPath_17  n) FU_ x2 (x3 ||| ((sM σ 5 j3) &&& (x3 ^^^ (-1)))) x4 x5 (sM σ 7 j2) ((sM σ 5 j3) &&& (x3 ^^^ (-1))) σ))))
def fX1_findPath (x1 : Int32) (x2 : Int32) (σ : St_) : Option (Int32 × St_) := (gd_ 0 22 fun j1 => fX1_findPath_17  FU_ x2 (1 <<< (x1 &&& 31)) 1 0 (uM σ 7 j1 x1))
set_option maxHeartbeats 4000000 in
set_option maxRecDepth 20000 in
theorem vX1_findPath_114 {p : Program} {l : Launch} {e : Env} {s : State} {m : MethodId} {args : Array Value} {below : List Frame} {meth : Method} {c : Code} {D : va_G} {A : Nat → Prop} {Q : State → Prop} {cy : Nat → ClassId} {ad fad : Nat → Nat} {k17 : Int32 → Int32 → Int32 → Int32 → St_ → Option (Int32 × St_)} {res : Int32 × St_} (C : vv_X p s m args meth c D (tysW cy) A 10 cX1_findPath RX1 wsX1_findPath) (h0 : eX A s) (hr : rt_I p l e rmX1_findPath s m args below meth c D A 10 Q cX1_findPath .boolean (wX cy ad fad res.2) res.1) (hk17 : ∀ (x2 : Int32) (x3 : Int32) (x4 : Int32) (x5 : Int32) (σ : St_), k17 x2 x3 x4 x5 σ = some res → vv_ p l e rmX1_findPath s m args below meth c D A 10 Q 0 0 (wX cy ad fad σ) [(0, .ref (ad 27)), (2, .int x2), (3, .int x3), (4, .int x4), (5, .int x5)] 17 []) : ∀ (x2 : Int32) (x3 : Int32) (x4 : Int32) (x5 : Int32) (σ : St_), fX1_findPath_114 k17 x2 x3 x4 x5 σ = some res → vv_ p l e rmX1_findPath s m args below meth c D A 10 Q 0 0 (wX cy ad fad σ) [(0, .ref (ad 27)), (2, .int x2), (3, .int x3), (4, .int x4), (5, .int x5)] 114 [] := by
  intro x2 x3 x4 x5 σ hF
  replace hF : (bn_ (fX5_hasBit x3 x2) fun r11 => (if r11 = 0 then k17 x2 x3 x4 (x5 + 1) σ else some (1, σ))) = some res := hF
  refine vv_iload_n C dX1_findPath_114 2 rfl ?_
  refine vv_iload_n C dX1_findPath_115 1 rfl ?_
  refine vv_callNi (fun r11 => r11) (fun r11 => (wX cy ad fad σ)) C eX_ok h0 [.int x3, .int x2] [] 2 hF (fun r11 hr11 => kX5_hasBit l D (tysW cy) eX_ok (wX cy ad fad σ) x3 x2 r11  hr11) gX1_findPath_X5_hasBit_n59 (eX_nX1_59 h0) (List.mem_of_getElem? (i := 16) rfl) (List.mem_of_getElem? (i := 15) rfl) rfl rfl rfl (by decide +kernel) ⟨by decide, by decide⟩ rfl rfl (Nat.le_of_ble_eq_true rfl) dX1_findPath_116 ⟨by decide, by decide⟩ (fun r11 hqr11 hF => ?_)
  refine vv_if_eq (tgt := 124) C dX1_findPath_119 (by decide) hF (fun c12 hF => ?_) (fun c12 hF => ?_)
  · refine vv_iinc (q := 4) (v := x5 + 1) (lv' := [(5, .int (x5 + 1)), (0, .ref (ad 27)), (2, .int x2), (3, .int x3), (4, .int x4)]) C dX1_findPath_124 rfl rfl (by decide) rfl ?_
    refine vv_goto (tgt := 17) C dX1_findPath_127 (by decide) ?_
    refine vv_lv [1, 2, 3, 4, 0] rfl ?_
    exact hk17 x2 x3 x4 (x5 + 1) σ  hF
  · refine vv_iconst (v := 1) C dX1_findPath_122 (by decide) ?_
    cases hF
    exact hr _ _ dX1_findPath_123 (by decide +kernel)
set_option maxHeartbeats 4000000 in
set_option maxRecDepth 20000 in
theorem vX1_findPath_62 {p : Program} {l : Launch} {e : Env} {s : State} {m : MethodId} {args : Array Value} {below : List Frame} {meth : Method} {c : Code} {D : va_G} {A : Nat → Prop} {Q : State → Prop} {cy : Nat → ClassId} {ad fad : Nat → Nat} {k17 : Int32 → Int32 → Int32 → Int32 → St_ → Option (Int32 × St_)} {res : Int32 × St_} (C : vv_X p s m args meth c D (tysW cy) A 10 cX1_findPath RX1 wsX1_findPath) (h0 : eX A s) (hr : rt_I p l e rmX1_findPath s m args below meth c D A 10 Q cX1_findPath .boolean (wX cy ad fad res.2) res.1) (hk17 : ∀ (x2 : Int32) (x3 : Int32) (x4 : Int32) (x5 : Int32) (σ : St_), k17 x2 x3 x4 x5 σ = some res → vv_ p l e rmX1_findPath s m args below meth c D A 10 Q 0 0 (wX cy ad fad σ) [(0, .ref (ad 27)), (2, .int x2), (3, .int x3), (4, .int x4), (5, .int x5)] 17 []) : ∀ (n : Nat) (x2 : Int32) (x3 : Int32) (x4 : Int32) (x5 : Int32) (x6 : Int32) (x8 : Int32) (σ : St_), fX1_findPath_62 k17 n x2 x3 x4 x5 x6 x8 σ = some res → vv_ p l e rmX1_findPath s m args below meth c D A 10 Q 0 0 (wX cy ad fad σ) [(0, .ref (ad 27)), (2, .int x2), (3, .int x3), (4, .int x4), (5, .int x5), (6, .int x6), (8, .int x8)] 62 [] := by
  intro n
  induction n with
  | zero =>
    intro x2 x3 x4 x5 x6 x8 σ hF
    cases (show none = some res from hF)
  | succ n ih =>
    intro x2 x3 x4 x5 x6 x8 σ hF
    replace hF : (if x8 = 0 then fX1_findPath_114 (k17) x2 x3 x4 x5 σ else (if 22 ≤ x4 then fX1_findPath_114 (k17) x2 x3 x4 x5 σ else (bn_ (fX1_lowestBit x8) fun r6 => (gd_ r6 22 fun j7 => (gd_ x4 22 fun j8 => fX1_findPath_62 k17 n x2 x3 (x4 + 1) x5 x6 (x8 &&& (x8 - 1)) (uM (uM σ 6 j7 x6) 7 j8 r6)))))) = some res := hF
    refine vv_iload C dX1_findPath_62 6 rfl ?_
    refine vv_if_eq (tgt := 114) C dX1_findPath_64 (by decide) hF (fun c10 hF => ?_) (fun c10 hF => ?_)
    · refine vv_lv [0, 1, 2, 3, 4] rfl ?_
      exact vX1_findPath_114 C h0 hr (hk17) x2 x3 x4 x5 σ  hF
    · refine vv_iload C dX1_findPath_67 3 rfl ?_
      refine vv_bipush (v := 22) C dX1_findPath_69 (by decide) ?_
      refine vv_icmp_ge (tgt := 114) C dX1_findPath_71 (by decide) hF (fun c9 hF => ?_) (fun c9 hF => ?_)
      · refine vv_lv [0, 1, 2, 3, 4] rfl ?_
        exact vX1_findPath_114 C h0 hr (hk17) x2 x3 x4 x5 σ  hF
      · refine vv_iload C dX1_findPath_74 6 rfl ?_
        refine vv_callSi (fun r6 => r6) (fun r6 => (wX cy ad fad σ)) C eX_ok h0 [.int x8] [] 1 hF (fun r6 hr6 => kX1_lowestBit l D (tysW cy) eX_ok (wX cy ad fad σ) x8 r6  hr6) gX1_findPath_X1_lowestBit rfl rfl rfl (by decide +kernel) ⟨by decide, by decide⟩ rfl rfl (Nat.le_of_ble_eq_true rfl) dX1_findPath_76 ⟨by decide, by decide⟩ (fun r6 hqr6 hF => ?_)
        refine vv_istore (lv' := [(9, .int r6), (0, .ref (ad 27)), (2, .int x2), (3, .int x3), (4, .int x4), (5, .int x5), (6, .int x6), (8, .int x8)]) C dX1_findPath_79 (by decide) rfl ?_
        refine vv_aload_n C dX1_findPath_81 1 rfl ?_
        refine vv_get (v := .ref (ad 6)) C (hi_X1_findPath_X1) 27 (wX_g27 cy ad fad _) rfl 1 (by decide) (List.mem_of_getElem? (i := 3) rfl) rfl dX1_findPath_82 ?_
        refine vv_iload C dX1_findPath_85 0 rfl ?_
        refine vv_iload C dX1_findPath_87 6 rfl ?_
        refine vv_iast (w' := fun j7 => (wX cy ad fad (uM σ 6 j7 x6))) C 6 0 (wX_g6 cy ad fad _) (tysW_0 cy) hF dX1_findPath_89 (fun _ => wX_a6 _ _ _ _ _) (fun j7 hj7 hF => ?_)
        refine vv_aload_n C dX1_findPath_90 1 rfl ?_
        refine vv_get (v := .ref (ad 7)) C (hi_X1_findPath_X1) 27 (wX_g27 cy ad fad _) rfl 2 (by decide) (List.mem_of_getElem? (i := 1) rfl) rfl dX1_findPath_91 ?_
        refine vv_iload C dX1_findPath_94 4 rfl ?_
        refine vv_iload C dX1_findPath_96 0 rfl ?_
        refine vv_iast (w' := fun j8 => (wX cy ad fad (uM (uM σ 6 j7 x6) 7 j8 r6))) C 7 0 (wX_g7 cy ad fad _) (tysW_0 cy) hF dX1_findPath_98 (fun _ => wX_a7 _ _ _ _ _) (fun j8 hj8 hF => ?_)
        refine vv_iinc (q := 4) (v := x4 + 1) (lv' := [(4, .int (x4 + 1)), (9, .int r6), (0, .ref (ad 27)), (2, .int x2), (3, .int x3), (5, .int x5), (6, .int x6), (8, .int x8)]) C dX1_findPath_99 rfl rfl (by decide) rfl ?_
        refine vv_iload C dX1_findPath_102 7 rfl ?_
        refine vv_iload C dX1_findPath_104 7 rfl ?_
        refine vv_iconst (v := 1) C dX1_findPath_106 (by decide) ?_
        refine vv_isub C dX1_findPath_107 ?_
        refine vv_iand C dX1_findPath_108 ?_
        refine vv_istore (lv' := [(8, .int (x8 &&& (x8 - 1))), (4, .int (x4 + 1)), (9, .int r6), (0, .ref (ad 27)), (2, .int x2), (3, .int x3), (5, .int x5), (6, .int x6)]) C dX1_findPath_109 (by decide) rfl ?_
        refine vv_goto (tgt := 62) C dX1_findPath_111 (by decide) ?_
        refine vv_lv [3, 4, 5, 1, 6, 7, 0] rfl ?_
        exact ih x2 x3 (x4 + 1) x5 x6 (x8 &&& (x8 - 1)) (uM (uM σ 6 j7 x6) 7 j8 r6)  hF
set_option maxHeartbeats 4000000 in
set_option maxRecDepth 20000 in
theorem vX1_findPath_17 {p : Program} {l : Launch} {e : Env} {s : State} {m : MethodId} {args : Array Value} {below : List Frame} {meth : Method} {c : Code} {D : va_G} {A : Nat → Prop} {Q : State → Prop} {cy : Nat → ClassId} {ad fad : Nat → Nat} {res : Int32 × St_} (C : vv_X p s m args meth c D (tysW cy) A 10 cX1_findPath RX1 wsX1_findPath) (h0 : eX A s) (hr : rt_I p l e rmX1_findPath s m args below meth c D A 10 Q cX1_findPath .boolean (wX cy ad fad res.2) res.1) : ∀ (n : Nat) (x2 : Int32) (x3 : Int32) (x4 : Int32) (x5 : Int32) (σ : St_), fX1_findPath_17  n x2 x3 x4 x5 σ = some res → vv_ p l e rmX1_findPath s m args below meth c D A 10 Q 0 0 (wX cy ad fad σ) [(0, .ref (ad 27)), (2, .int x2), (3, .int x3), (4, .int x4), (5, .int x5)] 17 [] := by
  intro n
  induction n with
  | zero =>
    intro x2 x3 x4 x5 σ hF
    cases (show none = some res from hF)
  | succ n ih =>
    intro x2 x3 x4 x5 σ hF
    replace hF : (if x4 ≤ x5 then some (0, σ) else (if 22 ≤ x5 then some (0, σ) else (gd_ x5 22 fun j2 => (gd_ (sM σ 7 j2) 22 fun j3 => fX1_findPath_62 (fX1_findPath_17  n) FU_ x2 (x3 ||| ((sM σ 5 j3) &&& (x3 ^^^ (-1)))) x4 x5 (sM σ 7 j2) ((sM σ 5 j3) &&& (x3 ^^^ (-1))) σ)))) = some res := hF
    refine vv_iload C dX1_findPath_17 4 rfl ?_
    refine vv_iload C dX1_findPath_19 3 rfl ?_
    refine vv_icmp_ge (tgt := 130) C dX1_findPath_21 (by decide) hF (fun c5 hF => ?_) (fun c5 hF => ?_)
    · refine vv_iconst (v := 0) C dX1_findPath_130 (by decide) ?_
      cases hF
      exact hr _ _ dX1_findPath_131 (by decide +kernel)
    · refine vv_iload C dX1_findPath_24 4 rfl ?_
      refine vv_bipush (v := 22) C dX1_findPath_26 (by decide) ?_
      refine vv_icmp_ge (tgt := 130) C dX1_findPath_28 (by decide) hF (fun c4 hF => ?_) (fun c4 hF => ?_)
      · refine vv_iconst (v := 0) C dX1_findPath_130 (by decide) ?_
        cases hF
        exact hr _ _ dX1_findPath_131 (by decide +kernel)
      · refine vv_aload_n C dX1_findPath_31 0 rfl ?_
        refine vv_get (v := .ref (ad 7)) C (hi_X1_findPath_X1) 27 (wX_g27 cy ad fad _) rfl 2 (by decide) (List.mem_of_getElem? (i := 1) rfl) rfl dX1_findPath_32 ?_
        refine vv_iload C dX1_findPath_35 4 rfl ?_
        refine vv_iald C 7 0 (wX_g7 cy ad fad _) (tysW_0 cy) hF dX1_findPath_37 (fun j2 hj2 hF => ?_)
        refine vv_istore (lv' := [(6, .int (sM σ 7 j2)), (0, .ref (ad 27)), (2, .int x2), (3, .int x3), (4, .int x4), (5, .int x5)]) C dX1_findPath_38 (by decide) rfl ?_
        refine vv_aload_n C dX1_findPath_40 1 rfl ?_
        refine vv_get (v := .ref (ad 5)) C (hi_X1_findPath_X1) 27 (wX_g27 cy ad fad _) rfl 0 (by decide) (List.mem_of_getElem? (i := 2) rfl) rfl dX1_findPath_41 ?_
        refine vv_iload C dX1_findPath_44 0 rfl ?_
        refine vv_iald C 5 0 (wX_g5 cy ad fad _) (tysW_0 cy) hF dX1_findPath_46 (fun j3 hj3 hF => ?_)
        refine vv_iload_n C dX1_findPath_47 3 rfl ?_
        refine vv_iconst (v := (-1)) C dX1_findPath_48 (by decide) ?_
        refine vv_ixor C dX1_findPath_49 ?_
        refine vv_iand C dX1_findPath_50 ?_
        refine vv_istore (lv' := [(7, .int ((sM σ 5 j3) &&& (x3 ^^^ (-1)))), (6, .int (sM σ 7 j2)), (0, .ref (ad 27)), (2, .int x2), (3, .int x3), (4, .int x4), (5, .int x5)]) C dX1_findPath_51 (by decide) rfl ?_
        refine vv_iload_n C dX1_findPath_53 4 rfl ?_
        refine vv_iload C dX1_findPath_54 0 rfl ?_
        refine vv_ior C dX1_findPath_56 ?_
        refine vv_istore_n (lv' := [(3, .int (x3 ||| ((sM σ 5 j3) &&& (x3 ^^^ (-1))))), (7, .int ((sM σ 5 j3) &&& (x3 ^^^ (-1)))), (6, .int (sM σ 7 j2)), (0, .ref (ad 27)), (2, .int x2), (4, .int x4), (5, .int x5)]) C dX1_findPath_57 (by decide) rfl ?_
        refine vv_iload C dX1_findPath_58 1 rfl ?_
        refine vv_istore (lv' := [(8, .int ((sM σ 5 j3) &&& (x3 ^^^ (-1)))), (3, .int (x3 ||| ((sM σ 5 j3) &&& (x3 ^^^ (-1))))), (7, .int ((sM σ 5 j3) &&& (x3 ^^^ (-1)))), (6, .int (sM σ 7 j2)), (0, .ref (ad 27)), (2, .int x2), (4, .int x4), (5, .int x5)]) C dX1_findPath_60 (by decide) rfl ?_
        refine vv_lv [4, 5, 1, 6, 7, 3, 0] rfl ?_
        exact vX1_findPath_62 C h0 hr (ih) FU_ x2 (x3 ||| ((sM σ 5 j3) &&& (x3 ^^^ (-1)))) x4 x5 (sM σ 7 j2) ((sM σ 5 j3) &&& (x3 ^^^ (-1))) σ  hF
set_option maxHeartbeats 4000000 in
set_option maxRecDepth 20000 in
theorem kX1_findPath (l : Launch) (D : va_G) (cy : Nat → ClassId) (ad fad : Nat → Nat) (x1 : Int32) (x2 : Int32) (σ : St_) (res : Int32 × St_)  (hF : fX1_findPath x1 x2 σ = some res) : ct_I l D (tysW cy) eX yX1_findPath wsX1_findPath rmX1_findPath [.ref (ad 27), .int x1, .int x2] (wX cy ad fad σ) res.1 (wX cy ad fad res.2) := by
  refine mt_I (by decide) rfl (Nat.le_of_ble_eq_true rfl) ?_
  intro p e s m args below meth c A Q C h0 hr
  replace C : vv_X p s m args meth c D (tysW cy) A 10 cX1_findPath RX1 wsX1_findPath := C
  replace hF : (gd_ 0 22 fun j1 => fX1_findPath_17  FU_ x2 (1 <<< (x1 &&& 31)) 1 0 (uM σ 7 j1 x1)) = some res := hF
  refine vv_lv [0, 1, 2] (lv' := [(0, .ref (ad 27)), (1, .int x1), (2, .int x2)]) rfl ?_
  refine vv_iconst (v := 1) C dX1_findPath_0 (by decide) ?_
  refine vv_iload_n C dX1_findPath_1 1 rfl ?_
  refine vv_ishl C dX1_findPath_2 ?_
  refine vv_istore_n (lv' := [(3, .int (1 <<< (x1 &&& 31))), (0, .ref (ad 27)), (1, .int x1), (2, .int x2)]) C dX1_findPath_3 (by decide) rfl ?_
  refine vv_iconst (v := 1) C dX1_findPath_4 (by decide) ?_
  refine vv_istore (lv' := [(4, .int 1), (3, .int (1 <<< (x1 &&& 31))), (0, .ref (ad 27)), (1, .int x1), (2, .int x2)]) C dX1_findPath_5 (by decide) rfl ?_
  refine vv_aload_n C dX1_findPath_7 2 rfl ?_
  refine vv_get (v := .ref (ad 7)) C (hi_X1_findPath_X1) 27 (wX_g27 cy ad fad _) rfl 2 (by decide) (List.mem_of_getElem? (i := 1) rfl) rfl dX1_findPath_8 ?_
  refine vv_iconst (v := 0) C dX1_findPath_11 (by decide) ?_
  refine vv_iload_n C dX1_findPath_12 3 rfl ?_
  refine vv_iast (w' := fun j1 => (wX cy ad fad (uM σ 7 j1 x1))) C 7 0 (wX_g7 cy ad fad _) (tysW_0 cy) hF dX1_findPath_13 (fun _ => wX_a7 _ _ _ _ _) (fun j1 hj1 hF => ?_)
  refine vv_iconst (v := 0) C dX1_findPath_14 (by decide) ?_
  refine vv_istore (lv' := [(5, .int 0), (4, .int 1), (3, .int (1 <<< (x1 &&& 31))), (0, .ref (ad 27)), (1, .int x1), (2, .int x2)]) C dX1_findPath_15 (by decide) rfl ?_
  refine vv_lv [3, 5, 2, 1, 0] rfl ?_
  exact vX1_findPath_17 C h0 hr  FU_ x2 (1 <<< (x1 &&& 31)) 1 0 (uM σ 7 j1 x1)  hF
/-! X1_followPath -/
abbrev rmX1_followPath : Room := { frames := 4, cells := 0, slots := 0, locals := 91 }
theorem hi_X1_followPath_X1 : ∀ w ∈ wsX10, w ∈ wsX1_followPath := fun w h => List.mem_cons_of_mem _ (List.mem_append_right _ h)
def fX1_followPath_5 : Nat → Int32 → Int32 → Int32 → St_ → Option St_
  | 0, _, _, _, _ => none
  | n + 1, x1, x3, x4, σ => (if 22 ≤ x4 then some σ else (if x3 = x1 then some σ else (gd_ x3 22 fun j1 => (bn_ (fX1_moveVisit (sM σ 6 j1) x3 σ) fun r2 => fX1_followPath_5  n x1 (sM σ 6 j1) (x4 + 1) r2))))
def fX1_followPath (x1 : Int32) (x2 : Int32) (σ : St_) : Option St_ := fX1_followPath_5  FU_ x1 x2 0 σ
set_option maxHeartbeats 4000000 in
set_option maxRecDepth 20000 in
theorem vX1_followPath_5 {p : Program} {l : Launch} {e : Env} {s : State} {m : MethodId} {args : Array Value} {below : List Frame} {meth : Method} {c : Code} {D : va_G} {A : Nat → Prop} {Q : State → Prop} {cy : Nat → ClassId} {ad fad : Nat → Nat} {res : St_} (C : vv_X p s m args meth c D (tysW cy) A 6 cX1_followPath RX1 wsX1_followPath) (h0 : eX A s) (hr : rt_V p l e rmX1_followPath s m args below meth c D A 6 Q cX1_followPath (wX cy ad fad res)) : ∀ (n : Nat) (x1 : Int32) (x3 : Int32) (x4 : Int32) (σ : St_), fX1_followPath_5  n x1 x3 x4 σ = some res → vv_ p l e rmX1_followPath s m args below meth c D A 6 Q 0 0 (wX cy ad fad σ) [(0, .ref (ad 27)), (1, .int x1), (3, .int x3), (4, .int x4)] 5 [] := by
  intro n
  induction n with
  | zero =>
    intro x1 x3 x4 σ hF
    cases (show none = some res from hF)
  | succ n ih =>
    intro x1 x3 x4 σ hF
    replace hF : (if 22 ≤ x4 then some σ else (if x3 = x1 then some σ else (gd_ x3 22 fun j1 => (bn_ (fX1_moveVisit (sM σ 6 j1) x3 σ) fun r2 => fX1_followPath_5  n x1 (sM σ 6 j1) (x4 + 1) r2)))) = some res := hF
    refine vv_iload C dX1_followPath_5 3 rfl ?_
    refine vv_bipush (v := 22) C dX1_followPath_7 (by decide) ?_
    refine vv_icmp_ge (tgt := 41) C dX1_followPath_9 (by decide) hF (fun c4 hF => ?_) (fun c4 hF => ?_)
    · cases hF
      exact hr _ _ dX1_followPath_41
    · refine vv_iload_n C dX1_followPath_12 2 rfl ?_
      refine vv_iload_n C dX1_followPath_13 1 rfl ?_
      refine vv_icmp_eq (tgt := 41) C dX1_followPath_14 (by decide) hF (fun c3 hF => ?_) (fun c3 hF => ?_)
      · cases hF
        exact hr _ _ dX1_followPath_41
      · refine vv_aload_n C dX1_followPath_17 0 rfl ?_
        refine vv_get (v := .ref (ad 6)) C (hi_X1_followPath_X1) 27 (wX_g27 cy ad fad _) rfl 1 (by decide) (List.mem_of_getElem? (i := 1) rfl) rfl dX1_followPath_18 ?_
        refine vv_iload_n C dX1_followPath_21 2 rfl ?_
        refine vv_iald C 6 0 (wX_g6 cy ad fad _) (tysW_0 cy) hF dX1_followPath_22 (fun j1 hj1 hF => ?_)
        refine vv_istore (lv' := [(5, .int (sM σ 6 j1)), (0, .ref (ad 27)), (1, .int x1), (3, .int x3), (4, .int x4)]) C dX1_followPath_23 (by decide) rfl ?_
        refine vv_aload_n C dX1_followPath_25 1 rfl ?_
        refine vv_iload C dX1_followPath_26 0 rfl ?_
        refine vv_iload_n C dX1_followPath_28 3 rfl ?_
        refine vv_callVv  (fun r2 => (wX cy ad fad r2)) C eX_ok h0 [.int (sM σ 6 j1), .int x3] [] 2 hF (fun r2 hr2 => kX1_moveVisit l D cy ad fad (sM σ 6 j1) x3 σ r2  hr2) gX1_followPath_X1_moveVisit rfl rfl rfl (by decide +kernel) ⟨by decide, by decide⟩ 27 (wX_g27 cy ad fad _) rfl rfl rfl (Nat.le_of_ble_eq_true rfl) dX1_followPath_29 ⟨by decide, by decide⟩ (fun r2 hqr2 hF => ?_)
        refine vv_iload C dX1_followPath_32 0 rfl ?_
        refine vv_istore_n (lv' := [(3, .int (sM σ 6 j1)), (5, .int (sM σ 6 j1)), (0, .ref (ad 27)), (1, .int x1), (4, .int x4)]) C dX1_followPath_34 (by decide) rfl ?_
        refine vv_iinc (q := 4) (v := x4 + 1) (lv' := [(4, .int (x4 + 1)), (3, .int (sM σ 6 j1)), (5, .int (sM σ 6 j1)), (0, .ref (ad 27)), (1, .int x1)]) C dX1_followPath_35 rfl rfl (by decide) rfl ?_
        refine vv_goto (tgt := 5) C dX1_followPath_38 (by decide) ?_
        refine vv_lv [3, 4, 1, 0] rfl ?_
        exact ih x1 (sM σ 6 j1) (x4 + 1) r2  hF
set_option maxHeartbeats 4000000 in
set_option maxRecDepth 20000 in
theorem kX1_followPath (l : Launch) (D : va_G) (cy : Nat → ClassId) (ad fad : Nat → Nat) (x1 : Int32) (x2 : Int32) (σ : St_) (res : St_)  (hF : fX1_followPath x1 x2 σ = some res) : ct_V l D (tysW cy) eX yX1_followPath wsX1_followPath rmX1_followPath [.ref (ad 27), .int x1, .int x2] (wX cy ad fad σ) (wX cy ad fad res) := by
  refine mt_V (by decide) rfl (Nat.le_of_ble_eq_true rfl) ?_
  intro p e s m args below meth c A Q C h0 hr
  replace C : vv_X p s m args meth c D (tysW cy) A 6 cX1_followPath RX1 wsX1_followPath := C
  replace hF : fX1_followPath_5  FU_ x1 x2 0 σ = some res := hF
  refine vv_lv [0, 1, 2] (lv' := [(0, .ref (ad 27)), (1, .int x1), (2, .int x2)]) rfl ?_
  refine vv_iload_n C dX1_followPath_0 2 rfl ?_
  refine vv_istore_n (lv' := [(3, .int x2), (0, .ref (ad 27)), (1, .int x1), (2, .int x2)]) C dX1_followPath_1 (by decide) rfl ?_
  refine vv_iconst (v := 0) C dX1_followPath_2 (by decide) ?_
  refine vv_istore (lv' := [(4, .int 0), (3, .int x2), (0, .ref (ad 27)), (1, .int x1), (2, .int x2)]) C dX1_followPath_3 (by decide) rfl ?_
  refine vv_lv [2, 3, 1, 0] rfl ?_
  exact vX1_followPath_5 C h0 hr  FU_ x1 x2 0 σ  hF
/-! X1_planMost -/
abbrev rmX1_planMost : Room := { frames := 5, cells := 0, slots := 0, locals := 116 }
def fX1_planMost_2 : Nat → Int32 → St_ → Option St_
  | 0, _, _ => none
  | n + 1, x1, σ => (if 100 ≤ x1 then some σ else (bn_ (fX1_findPath 20 21 σ) fun r1 => (if r1.1 = 0 then some r1.2 else (bn_ (fX1_followPath 20 21 r1.2) fun r2 => fX1_planMost_2  n (x1 + 1) r2))))
def fX1_planMost (σ : St_) : Option St_ := fX1_planMost_2  FU_ 0 σ
set_option maxHeartbeats 4000000 in
set_option maxRecDepth 20000 in
theorem vX1_planMost_2 {p : Program} {l : Launch} {e : Env} {s : State} {m : MethodId} {args : Array Value} {below : List Frame} {meth : Method} {c : Code} {D : va_G} {A : Nat → Prop} {Q : State → Prop} {cy : Nat → ClassId} {ad fad : Nat → Nat} {res : St_} (C : vv_X p s m args meth c D (tysW cy) A 2 cX1_planMost RX1 wsX1_planMost) (h0 : eX A s) (hr : rt_V p l e rmX1_planMost s m args below meth c D A 2 Q cX1_planMost (wX cy ad fad res)) : ∀ (n : Nat) (x1 : Int32) (σ : St_), fX1_planMost_2  n x1 σ = some res → vv_ p l e rmX1_planMost s m args below meth c D A 2 Q 0 0 (wX cy ad fad σ) [(0, .ref (ad 27)), (1, .int x1)] 2 [] := by
  intro n
  induction n with
  | zero =>
    intro x1 σ hF
    cases (show none = some res from hF)
  | succ n ih =>
    intro x1 σ hF
    replace hF : (if 100 ≤ x1 then some σ else (bn_ (fX1_findPath 20 21 σ) fun r1 => (if r1.1 = 0 then some r1.2 else (bn_ (fX1_followPath 20 21 r1.2) fun r2 => fX1_planMost_2  n (x1 + 1) r2)))) = some res := hF
    refine vv_iload_n C dX1_planMost_2 1 rfl ?_
    refine vv_bipush (v := 100) C dX1_planMost_3 (by decide) ?_
    refine vv_icmp_ge (tgt := 34) C dX1_planMost_5 (by decide) hF (fun c4 hF => ?_) (fun c4 hF => ?_)
    · cases hF
      exact hr _ _ dX1_planMost_34
    · refine vv_aload_n C dX1_planMost_8 0 rfl ?_
      refine vv_bipush (v := 20) C dX1_planMost_9 (by decide) ?_
      refine vv_bipush (v := 21) C dX1_planMost_11 (by decide) ?_
      refine vv_callVi (fun r1 => r1.1) (fun r1 => (wX cy ad fad r1.2)) C eX_ok h0 [.int 20, .int 21] [] 2 hF (fun r1 hr1 => kX1_findPath l D cy ad fad 20 21 σ r1  hr1) gX1_planMost_X1_findPath rfl rfl rfl (by decide +kernel) ⟨by decide, by decide⟩ 27 (wX_g27 cy ad fad _) rfl rfl rfl (Nat.le_of_ble_eq_true rfl) dX1_planMost_13 ⟨by decide, by decide⟩ (fun r1 hqr1 hF => ?_)
      refine vv_if_ne (tgt := 20) C dX1_planMost_16 (by decide) hF (fun c3 hF => ?_) (fun c3 hF => ?_)
      · refine vv_aload_n C dX1_planMost_20 0 rfl ?_
        refine vv_bipush (v := 20) C dX1_planMost_21 (by decide) ?_
        refine vv_bipush (v := 21) C dX1_planMost_23 (by decide) ?_
        refine vv_callVv  (fun r2 => (wX cy ad fad r2)) C eX_ok h0 [.int 20, .int 21] [] 2 hF (fun r2 hr2 => kX1_followPath l D cy ad fad 20 21 r1.2 r2  hr2) gX1_planMost_X1_followPath rfl rfl rfl (by decide +kernel) ⟨by decide, by decide⟩ 27 (wX_g27 cy ad fad _) rfl rfl rfl (Nat.le_of_ble_eq_true rfl) dX1_planMost_25 ⟨by decide, by decide⟩ (fun r2 hqr2 hF => ?_)
        refine vv_iinc (q := 1) (v := x1 + 1) (lv' := [(1, .int (x1 + 1)), (0, .ref (ad 27))]) C dX1_planMost_28 rfl rfl (by decide) rfl ?_
        refine vv_goto (tgt := 2) C dX1_planMost_31 (by decide) ?_
        refine vv_lv [1, 0] rfl ?_
        exact ih (x1 + 1) r2  hF
      · cases hF
        exact hr _ _ dX1_planMost_19
set_option maxHeartbeats 4000000 in
set_option maxRecDepth 20000 in
theorem kX1_planMost (l : Launch) (D : va_G) (cy : Nat → ClassId) (ad fad : Nat → Nat) (σ : St_) (res : St_)  (hF : fX1_planMost σ = some res) : ct_V l D (tysW cy) eX yX1_planMost wsX1_planMost rmX1_planMost [.ref (ad 27)] (wX cy ad fad σ) (wX cy ad fad res) := by
  refine mt_V (by decide) rfl (Nat.le_of_ble_eq_true rfl) ?_
  intro p e s m args below meth c A Q C h0 hr
  replace C : vv_X p s m args meth c D (tysW cy) A 2 cX1_planMost RX1 wsX1_planMost := C
  replace hF : fX1_planMost_2  FU_ 0 σ = some res := hF
  refine vv_lv [0] (lv' := [(0, .ref (ad 27))]) rfl ?_
  refine vv_iconst (v := 0) C dX1_planMost_0 (by decide) ?_
  refine vv_istore_n (lv' := [(1, .int 0), (0, .ref (ad 27))]) C dX1_planMost_1 (by decide) rfl ?_
  refine vv_lv [1, 0] rfl ?_
  exact vX1_planMost_2 C h0 hr  FU_ 0 σ  hF
/-! X1_planLeastRow -/
abbrev rmX1_planLeastRow : Room := { frames := 5, cells := 0, slots := 0, locals := 116 }
theorem hi_X1_planLeastRow_X1 : ∀ w ∈ wsX10, w ∈ wsX1_planLeastRow := fun w h => List.mem_cons_of_mem _ (List.mem_append_right _ h)
def fX1_planLeastRow_69 (k2 : Int32 → Int32 → St_ → Option St_) (k15 : Int32 → Int32 → Int32 → St_ → Option St_) (x1 : Int32) (x2 : Int32) (x3 : Int32) (x4 : Int32) (σ : St_) : Option St_ := (bn_ (fX1_setWay x3 x4 0 σ) fun r13 => (bn_ (fX1_setWay x4 x3 0 r13) fun r14 => k15 x1 x2 (x3 + 1) r14))
def fX1_planLeastRow_91 (k2 : Int32 → Int32 → St_ → Option St_) (x1 : Int32) (x2 : Int32) (σ : St_) : Option St_ := k2 x1 (x2 + 1) σ
def fX1_planLeastRow_15 (k2 : Int32 → Int32 → St_ → Option St_) : Nat → Int32 → Int32 → Int32 → St_ → Option St_
  | 0, _, _, _, _ => none
  | n + 1, x1, x2, x3, σ => (if x1 ≤ x3 then fX1_planLeastRow_91 (k2) x1 x2 σ else (if 10 ≤ x3 then fX1_planLeastRow_91 (k2) x1 x2 σ else (bn_ (fX1_placeVisited x2) fun r3 => (gd_ x3 22 fun j4 => (bn_ (fX5_hasBit (sM σ 5 j4) r3) fun r5 => (if r5 = 0 then fX1_planLeastRow_69 (k2) (fX1_planLeastRow_15 k2 n) x1 x2 x3 r3 σ else (bn_ (fX1_findPath r3 x3 σ) fun r6 => (if r6.1 = 0 then fX1_planLeastRow_69 (k2) (fX1_planLeastRow_15 k2 n) x1 x2 x3 r3 r6.2 else (bn_ (fX1_followPath r3 x3 r6.2) fun r7 => (bn_ (fX1_addVisit x3 x2 r7) fun r8 => fX1_planLeastRow_69 (k2) (fX1_planLeastRow_15 k2 n) x1 x2 x3 r3 r8))))))))))
def fX1_planLeastRow_2 : Nat → Int32 → Int32 → St_ → Option St_
  | 0, _, _, _ => none
  | n + 1, x1, x2, σ => (if x1 ≤ x2 then some σ else (if 10 ≤ x2 then some σ else fX1_planLeastRow_15 (fX1_planLeastRow_2  n) FU_ x1 x2 0 σ))
def fX1_planLeastRow (x1 : Int32) (σ : St_) : Option St_ := fX1_planLeastRow_2  FU_ x1 0 σ
set_option maxHeartbeats 4000000 in
set_option maxRecDepth 20000 in
theorem vX1_planLeastRow_69 {p : Program} {l : Launch} {e : Env} {s : State} {m : MethodId} {args : Array Value} {below : List Frame} {meth : Method} {c : Code} {D : va_G} {A : Nat → Prop} {Q : State → Prop} {cy : Nat → ClassId} {ad fad : Nat → Nat} {k2 : Int32 → Int32 → St_ → Option St_} {k15 : Int32 → Int32 → Int32 → St_ → Option St_} {res : St_} (C : vv_X p s m args meth c D (tysW cy) A 5 cX1_planLeastRow RX1 wsX1_planLeastRow) (h0 : eX A s) (hr : rt_V p l e rmX1_planLeastRow s m args below meth c D A 5 Q cX1_planLeastRow (wX cy ad fad res)) (hk2 : ∀ (x1 : Int32) (x2 : Int32) (σ : St_), k2 x1 x2 σ = some res → vv_ p l e rmX1_planLeastRow s m args below meth c D A 5 Q 0 0 (wX cy ad fad σ) [(0, .ref (ad 27)), (1, .int x1), (2, .int x2)] 2 []) (hk15 : ∀ (x1 : Int32) (x2 : Int32) (x3 : Int32) (σ : St_), k15 x1 x2 x3 σ = some res → vv_ p l e rmX1_planLeastRow s m args below meth c D A 5 Q 0 0 (wX cy ad fad σ) [(0, .ref (ad 27)), (1, .int x1), (2, .int x2), (3, .int x3)] 15 []) : ∀ (x1 : Int32) (x2 : Int32) (x3 : Int32) (x4 : Int32) (σ : St_), fX1_planLeastRow_69 k2 k15 x1 x2 x3 x4 σ = some res → vv_ p l e rmX1_planLeastRow s m args below meth c D A 5 Q 0 0 (wX cy ad fad σ) [(0, .ref (ad 27)), (1, .int x1), (2, .int x2), (3, .int x3), (4, .int x4)] 69 [] := by
  intro x1 x2 x3 x4 σ hF
  replace hF : (bn_ (fX1_setWay x3 x4 0 σ) fun r13 => (bn_ (fX1_setWay x4 x3 0 r13) fun r14 => k15 x1 x2 (x3 + 1) r14)) = some res := hF
  refine vv_aload_n C dX1_planLeastRow_69 0 rfl ?_
  refine vv_iload_n C dX1_planLeastRow_70 3 rfl ?_
  refine vv_iload C dX1_planLeastRow_71 4 rfl ?_
  refine vv_iconst (v := 0) C dX1_planLeastRow_73 (by decide) ?_
  refine vv_callVv  (fun r13 => (wX cy ad fad r13)) C eX_ok h0 [.int x3, .int x4, .int 0] [] 3 hF (fun r13 hr13 => kX1_setWay l D cy ad fad x3 x4 0 σ r13  hr13) gX1_planLeastRow_X1_setWay rfl rfl rfl (by decide +kernel) ⟨by decide, by decide⟩ 27 (wX_g27 cy ad fad _) rfl rfl rfl (Nat.le_of_ble_eq_true rfl) dX1_planLeastRow_74 ⟨by decide, by decide⟩ (fun r13 hqr13 hF => ?_)
  refine vv_aload_n C dX1_planLeastRow_77 0 rfl ?_
  refine vv_iload C dX1_planLeastRow_78 4 rfl ?_
  refine vv_iload_n C dX1_planLeastRow_80 3 rfl ?_
  refine vv_iconst (v := 0) C dX1_planLeastRow_81 (by decide) ?_
  refine vv_callVv  (fun r14 => (wX cy ad fad r14)) C eX_ok h0 [.int x4, .int x3, .int 0] [] 3 hF (fun r14 hr14 => kX1_setWay l D cy ad fad x4 x3 0 r13 r14  hr14) gX1_planLeastRow_X1_setWay rfl rfl rfl (by decide +kernel) ⟨by decide, by decide⟩ 27 (wX_g27 cy ad fad _) rfl rfl rfl (Nat.le_of_ble_eq_true rfl) dX1_planLeastRow_82 ⟨by decide, by decide⟩ (fun r14 hqr14 hF => ?_)
  refine vv_iinc (q := 3) (v := x3 + 1) (lv' := [(3, .int (x3 + 1)), (0, .ref (ad 27)), (1, .int x1), (2, .int x2), (4, .int x4)]) C dX1_planLeastRow_85 rfl rfl (by decide) rfl ?_
  refine vv_goto (tgt := 15) C dX1_planLeastRow_88 (by decide) ?_
  refine vv_lv [1, 2, 3, 0] rfl ?_
  exact hk15 x1 x2 (x3 + 1) r14  hF
set_option maxHeartbeats 4000000 in
set_option maxRecDepth 20000 in
theorem vX1_planLeastRow_91 {p : Program} {l : Launch} {e : Env} {s : State} {m : MethodId} {args : Array Value} {below : List Frame} {meth : Method} {c : Code} {D : va_G} {A : Nat → Prop} {Q : State → Prop} {cy : Nat → ClassId} {ad fad : Nat → Nat} {k2 : Int32 → Int32 → St_ → Option St_} {res : St_} (C : vv_X p s m args meth c D (tysW cy) A 5 cX1_planLeastRow RX1 wsX1_planLeastRow) (h0 : eX A s) (hr : rt_V p l e rmX1_planLeastRow s m args below meth c D A 5 Q cX1_planLeastRow (wX cy ad fad res)) (hk2 : ∀ (x1 : Int32) (x2 : Int32) (σ : St_), k2 x1 x2 σ = some res → vv_ p l e rmX1_planLeastRow s m args below meth c D A 5 Q 0 0 (wX cy ad fad σ) [(0, .ref (ad 27)), (1, .int x1), (2, .int x2)] 2 []) : ∀ (x1 : Int32) (x2 : Int32) (σ : St_), fX1_planLeastRow_91 k2 x1 x2 σ = some res → vv_ p l e rmX1_planLeastRow s m args below meth c D A 5 Q 0 0 (wX cy ad fad σ) [(0, .ref (ad 27)), (1, .int x1), (2, .int x2)] 91 [] := by
  intro x1 x2 σ hF
  replace hF : k2 x1 (x2 + 1) σ = some res := hF
  refine vv_iinc (q := 2) (v := x2 + 1) (lv' := [(2, .int (x2 + 1)), (0, .ref (ad 27)), (1, .int x1)]) C dX1_planLeastRow_91 rfl rfl (by decide) rfl ?_
  refine vv_goto (tgt := 2) C dX1_planLeastRow_94 (by decide) ?_
  refine vv_lv [1, 2, 0] rfl ?_
  exact hk2 x1 (x2 + 1) σ  hF
set_option maxHeartbeats 4000000 in
set_option maxRecDepth 20000 in
theorem vX1_planLeastRow_15 {p : Program} {l : Launch} {e : Env} {s : State} {m : MethodId} {args : Array Value} {below : List Frame} {meth : Method} {c : Code} {D : va_G} {A : Nat → Prop} {Q : State → Prop} {cy : Nat → ClassId} {ad fad : Nat → Nat} {k2 : Int32 → Int32 → St_ → Option St_} {res : St_} (C : vv_X p s m args meth c D (tysW cy) A 5 cX1_planLeastRow RX1 wsX1_planLeastRow) (h0 : eX A s) (hr : rt_V p l e rmX1_planLeastRow s m args below meth c D A 5 Q cX1_planLeastRow (wX cy ad fad res)) (hk2 : ∀ (x1 : Int32) (x2 : Int32) (σ : St_), k2 x1 x2 σ = some res → vv_ p l e rmX1_planLeastRow s m args below meth c D A 5 Q 0 0 (wX cy ad fad σ) [(0, .ref (ad 27)), (1, .int x1), (2, .int x2)] 2 []) : ∀ (n : Nat) (x1 : Int32) (x2 : Int32) (x3 : Int32) (σ : St_), fX1_planLeastRow_15 k2 n x1 x2 x3 σ = some res → vv_ p l e rmX1_planLeastRow s m args below meth c D A 5 Q 0 0 (wX cy ad fad σ) [(0, .ref (ad 27)), (1, .int x1), (2, .int x2), (3, .int x3)] 15 [] := by
  intro n
  induction n with
  | zero =>
    intro x1 x2 x3 σ hF
    cases (show none = some res from hF)
  | succ n ih =>
    intro x1 x2 x3 σ hF
    replace hF : (if x1 ≤ x3 then fX1_planLeastRow_91 (k2) x1 x2 σ else (if 10 ≤ x3 then fX1_planLeastRow_91 (k2) x1 x2 σ else (bn_ (fX1_placeVisited x2) fun r3 => (gd_ x3 22 fun j4 => (bn_ (fX5_hasBit (sM σ 5 j4) r3) fun r5 => (if r5 = 0 then fX1_planLeastRow_69 (k2) (fX1_planLeastRow_15 k2 n) x1 x2 x3 r3 σ else (bn_ (fX1_findPath r3 x3 σ) fun r6 => (if r6.1 = 0 then fX1_planLeastRow_69 (k2) (fX1_planLeastRow_15 k2 n) x1 x2 x3 r3 r6.2 else (bn_ (fX1_followPath r3 x3 r6.2) fun r7 => (bn_ (fX1_addVisit x3 x2 r7) fun r8 => fX1_planLeastRow_69 (k2) (fX1_planLeastRow_15 k2 n) x1 x2 x3 r3 r8)))))))))) = some res := hF
    refine vv_iload_n C dX1_planLeastRow_15 3 rfl ?_
    refine vv_iload_n C dX1_planLeastRow_16 1 rfl ?_
    refine vv_icmp_ge (tgt := 91) C dX1_planLeastRow_17 (by decide) hF (fun c12 hF => ?_) (fun c12 hF => ?_)
    · refine vv_lv [0, 1, 2] rfl ?_
      exact vX1_planLeastRow_91 C h0 hr (hk2) x1 x2 σ  hF
    · refine vv_iload_n C dX1_planLeastRow_20 3 rfl ?_
      refine vv_bipush (v := 10) C dX1_planLeastRow_21 (by decide) ?_
      refine vv_icmp_ge (tgt := 91) C dX1_planLeastRow_23 (by decide) hF (fun c11 hF => ?_) (fun c11 hF => ?_)
      · refine vv_lv [0, 1, 2] rfl ?_
        exact vX1_planLeastRow_91 C h0 hr (hk2) x1 x2 σ  hF
      · refine vv_iload_n C dX1_planLeastRow_26 2 rfl ?_
        refine vv_callSi (fun r3 => r3) (fun r3 => (wX cy ad fad σ)) C eX_ok h0 [.int x2] [] 1 hF (fun r3 hr3 => kX1_placeVisited l D (tysW cy) eX_ok (wX cy ad fad σ) x2 r3  hr3) gX1_planLeastRow_X1_placeVisited rfl rfl rfl (by decide +kernel) ⟨by decide, by decide⟩ rfl rfl (Nat.le_of_ble_eq_true rfl) dX1_planLeastRow_27 ⟨by decide, by decide⟩ (fun r3 hqr3 hF => ?_)
        refine vv_istore (lv' := [(4, .int r3), (0, .ref (ad 27)), (1, .int x1), (2, .int x2), (3, .int x3)]) C dX1_planLeastRow_30 (by decide) rfl ?_
        refine vv_aload_n C dX1_planLeastRow_32 1 rfl ?_
        refine vv_get (v := .ref (ad 5)) C (hi_X1_planLeastRow_X1) 27 (wX_g27 cy ad fad _) rfl 0 (by decide) (List.mem_of_getElem? (i := 1) rfl) rfl dX1_planLeastRow_33 ?_
        refine vv_iload_n C dX1_planLeastRow_36 4 rfl ?_
        refine vv_iald C 5 0 (wX_g5 cy ad fad _) (tysW_0 cy) hF dX1_planLeastRow_37 (fun j4 hj4 hF => ?_)
        refine vv_iload C dX1_planLeastRow_38 0 rfl ?_
        refine vv_callNi (fun r5 => r5) (fun r5 => (wX cy ad fad σ)) C eX_ok h0 [.int (sM σ 5 j4), .int r3] [] 2 hF (fun r5 hr5 => kX5_hasBit l D (tysW cy) eX_ok (wX cy ad fad σ) (sM σ 5 j4) r3 r5  hr5) gX1_planLeastRow_X5_hasBit_n59 (eX_nX1_59 h0) (List.mem_of_getElem? (i := 7) rfl) (List.mem_of_getElem? (i := 6) rfl) rfl rfl rfl (by decide +kernel) ⟨by decide, by decide⟩ rfl rfl (Nat.le_of_ble_eq_true rfl) dX1_planLeastRow_40 ⟨by decide, by decide⟩ (fun r5 hqr5 hF => ?_)
        refine vv_if_eq (tgt := 69) C dX1_planLeastRow_43 (by decide) hF (fun c10 hF => ?_) (fun c10 hF => ?_)
        · refine vv_lv [1, 2, 3, 4, 0] rfl ?_
          exact vX1_planLeastRow_69 C h0 hr (hk2) (ih) x1 x2 x3 r3 σ  hF
        · refine vv_aload_n C dX1_planLeastRow_46 1 rfl ?_
          refine vv_iload C dX1_planLeastRow_47 0 rfl ?_
          refine vv_iload_n C dX1_planLeastRow_49 4 rfl ?_
          refine vv_callVi (fun r6 => r6.1) (fun r6 => (wX cy ad fad r6.2)) C eX_ok h0 [.int r3, .int x3] [] 2 hF (fun r6 hr6 => kX1_findPath l D cy ad fad r3 x3 σ r6  hr6) gX1_planLeastRow_X1_findPath rfl rfl rfl (by decide +kernel) ⟨by decide, by decide⟩ 27 (wX_g27 cy ad fad _) rfl rfl rfl (Nat.le_of_ble_eq_true rfl) dX1_planLeastRow_50 ⟨by decide, by decide⟩ (fun r6 hqr6 hF => ?_)
          refine vv_if_eq (tgt := 69) C dX1_planLeastRow_53 (by decide) hF (fun c9 hF => ?_) (fun c9 hF => ?_)
          · refine vv_lv [1, 2, 3, 4, 0] rfl ?_
            exact vX1_planLeastRow_69 C h0 hr (hk2) (ih) x1 x2 x3 r3 r6.2  hF
          · refine vv_aload_n C dX1_planLeastRow_56 1 rfl ?_
            refine vv_iload C dX1_planLeastRow_57 0 rfl ?_
            refine vv_iload_n C dX1_planLeastRow_59 4 rfl ?_
            refine vv_callVv  (fun r7 => (wX cy ad fad r7)) C eX_ok h0 [.int r3, .int x3] [] 2 hF (fun r7 hr7 => kX1_followPath l D cy ad fad r3 x3 r6.2 r7  hr7) gX1_planLeastRow_X1_followPath rfl rfl rfl (by decide +kernel) ⟨by decide, by decide⟩ 27 (wX_g27 cy ad fad _) rfl rfl rfl (Nat.le_of_ble_eq_true rfl) dX1_planLeastRow_60 ⟨by decide, by decide⟩ (fun r7 hqr7 hF => ?_)
            refine vv_aload_n C dX1_planLeastRow_63 1 rfl ?_
            refine vv_iload_n C dX1_planLeastRow_64 4 rfl ?_
            refine vv_iload_n C dX1_planLeastRow_65 3 rfl ?_
            refine vv_callVv  (fun r8 => (wX cy ad fad r8)) C eX_ok h0 [.int x3, .int x2] [] 2 hF (fun r8 hr8 => kX1_addVisit l D cy ad fad x3 x2 r7 r8  hr8) gX1_planLeastRow_X1_addVisit rfl rfl rfl (by decide +kernel) ⟨by decide, by decide⟩ 27 (wX_g27 cy ad fad _) rfl rfl rfl (Nat.le_of_ble_eq_true rfl) dX1_planLeastRow_66 ⟨by decide, by decide⟩ (fun r8 hqr8 hF => ?_)
            refine vv_lv [1, 2, 3, 4, 0] rfl ?_
            exact vX1_planLeastRow_69 C h0 hr (hk2) (ih) x1 x2 x3 r3 r8  hF
set_option maxHeartbeats 4000000 in
set_option maxRecDepth 20000 in
theorem vX1_planLeastRow_2 {p : Program} {l : Launch} {e : Env} {s : State} {m : MethodId} {args : Array Value} {below : List Frame} {meth : Method} {c : Code} {D : va_G} {A : Nat → Prop} {Q : State → Prop} {cy : Nat → ClassId} {ad fad : Nat → Nat} {res : St_} (C : vv_X p s m args meth c D (tysW cy) A 5 cX1_planLeastRow RX1 wsX1_planLeastRow) (h0 : eX A s) (hr : rt_V p l e rmX1_planLeastRow s m args below meth c D A 5 Q cX1_planLeastRow (wX cy ad fad res)) : ∀ (n : Nat) (x1 : Int32) (x2 : Int32) (σ : St_), fX1_planLeastRow_2  n x1 x2 σ = some res → vv_ p l e rmX1_planLeastRow s m args below meth c D A 5 Q 0 0 (wX cy ad fad σ) [(0, .ref (ad 27)), (1, .int x1), (2, .int x2)] 2 [] := by
  intro n
  induction n with
  | zero =>
    intro x1 x2 σ hF
    cases (show none = some res from hF)
  | succ n ih =>
    intro x1 x2 σ hF
    replace hF : (if x1 ≤ x2 then some σ else (if 10 ≤ x2 then some σ else fX1_planLeastRow_15 (fX1_planLeastRow_2  n) FU_ x1 x2 0 σ)) = some res := hF
    refine vv_iload_n C dX1_planLeastRow_2 2 rfl ?_
    refine vv_iload_n C dX1_planLeastRow_3 1 rfl ?_
    refine vv_icmp_ge (tgt := 97) C dX1_planLeastRow_4 (by decide) hF (fun c2 hF => ?_) (fun c2 hF => ?_)
    · cases hF
      exact hr _ _ dX1_planLeastRow_97
    · refine vv_iload_n C dX1_planLeastRow_7 2 rfl ?_
      refine vv_bipush (v := 10) C dX1_planLeastRow_8 (by decide) ?_
      refine vv_icmp_ge (tgt := 97) C dX1_planLeastRow_10 (by decide) hF (fun c1 hF => ?_) (fun c1 hF => ?_)
      · cases hF
        exact hr _ _ dX1_planLeastRow_97
      · refine vv_iconst (v := 0) C dX1_planLeastRow_13 (by decide) ?_
        refine vv_istore_n (lv' := [(3, .int 0), (0, .ref (ad 27)), (1, .int x1), (2, .int x2)]) C dX1_planLeastRow_14 (by decide) rfl ?_
        refine vv_lv [1, 2, 3, 0] rfl ?_
        exact vX1_planLeastRow_15 C h0 hr (ih) FU_ x1 x2 0 σ  hF
set_option maxHeartbeats 4000000 in
set_option maxRecDepth 20000 in
theorem kX1_planLeastRow (l : Launch) (D : va_G) (cy : Nat → ClassId) (ad fad : Nat → Nat) (x1 : Int32) (σ : St_) (res : St_)  (hF : fX1_planLeastRow x1 σ = some res) : ct_V l D (tysW cy) eX yX1_planLeastRow wsX1_planLeastRow rmX1_planLeastRow [.ref (ad 27), .int x1] (wX cy ad fad σ) (wX cy ad fad res) := by
  refine mt_V (by decide) rfl (Nat.le_of_ble_eq_true rfl) ?_
  intro p e s m args below meth c A Q C h0 hr
  replace C : vv_X p s m args meth c D (tysW cy) A 5 cX1_planLeastRow RX1 wsX1_planLeastRow := C
  replace hF : fX1_planLeastRow_2  FU_ x1 0 σ = some res := hF
  refine vv_lv [0, 1] (lv' := [(0, .ref (ad 27)), (1, .int x1)]) rfl ?_
  refine vv_iconst (v := 0) C dX1_planLeastRow_0 (by decide) ?_
  refine vv_istore_n (lv' := [(2, .int 0), (0, .ref (ad 27)), (1, .int x1)]) C dX1_planLeastRow_1 (by decide) rfl ?_
  refine vv_lv [1, 2, 0] rfl ?_
  exact vX1_planLeastRow_2 C h0 hr  FU_ x1 0 σ  hF
end
