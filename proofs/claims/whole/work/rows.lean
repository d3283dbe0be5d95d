section
/-- an array class over arrays of t is there (the printed names take it under this name) -/
def va_AOA (t : FieldType) (U : State) : Prop := (Cond.arrayOver (.array t)).before #[] U = true
theorem va_AOA.use {t : FieldType} {B : Array Value} {U : State} (h : va_AOA t U) : (Cond.arrayOver (.array t)).before B U = true := h
end
section
/-! ===== BEGIN words of one list among another's, by their places ===== -/
theorem goodIn_r {big : List Cond} (ws : List Cond) (ps : List Nat) (hp : ws = ps.filterMap (fun i => big[i]?)) (h : ws.all goodWord = true) : GoodIn big ws := by
  intro w hw
  have h1 := List.all_eq_true.mp h w hw
  rw [hp] at hw
  obtain ⟨i, -, hi⟩ := List.mem_filterMap.mp hw
  have hm : w ∈ big := by first | exact List.mem_of_getElem? hi | exact List.getElem?_mem hi
  exact ⟨hm, good_of_word h1⟩
theorem goodIn_app {big a b : List Cond} (ha : GoodIn big a) (hb : GoodIn big b) : GoodIn big (a ++ b) := fun w h => (List.mem_append.mp h).elim (ha w) (hb w)
theorem goodIn_ca {big a b : List Cond} {c : Cond} (ha : GoodIn big (c :: a)) (hb : GoodIn big b) : GoodIn big (c :: (a ++ b)) := fun w h => (List.mem_cons.mp h).elim (fun e => ha w (List.mem_cons.mpr (Or.inl e))) (fun h => (List.mem_append.mp h).elim (fun h => ha w (List.mem_cons.mpr (Or.inr h))) (hb w))
theorem goodIn_sub {big ws : List Cond} (hm : ∀ w ∈ ws, w ∈ big) (h : ws.all goodWord = true) : GoodIn big ws := fun w hw => ⟨hm w hw, good_of_word (List.all_eq_true.mp h w hw)⟩
/-! ===== END ===== -/

/-! ===== BEGIN new T[n][m]: the outer array a place, the inner ones among the pooled ===== -/
/-- f, but v at every address of l -/
def vr_up {α : Type} (f : Nat → α) (l : List Nat) (v : α) : Nat → α := fun a => if a ∈ l then v else f a
theorem vr_up_in {α : Type} {f : Nat → α} {l : List Nat} {v : α} {a : Nat} (h : a ∈ l) : vr_up f l v a = v := if_pos h
theorem vr_up_ne {α : Type} {f : Nat → α} {l : List Nat} {v : α} {a : Nat} (h : a ∉ l) : vr_up f l v a = f a := if_neg h
theorem vr_rows {L l : List Nat} {f : Nat → va_E} {e : va_E} (h : ∀ a, a ∈ l → a ∉ L) : va_pl L f ++ l.map (fun a => (a, e)) = va_pl (L ++ l) (vr_up f l e) := by
  unfold va_pl
  rw [List.map_append]
  congr 1
  · apply List.map_congr_left
    intro a ha
    rw [vr_up_ne (fun q => h a q ha)]
  · apply List.map_congr_left
    intro a ha
    rw [vr_up_in ha]
theorem vr_lay {X rows : va_W} {x : Nat × va_E} {pl : va_W} {D : va_G} {cl : List vw_C} {H : Heap} (hP : va_P D cl (((X ++ pl) ++ [x]) ++ rows) H) : va_P D cl ((X ++ [x]) ++ (pl ++ rows)) H := by
  rw [List.append_assoc (X ++ pl)] at hP
  have h := va_P.swap hP
  rw [← List.append_assoc X] at h
  have h2 := va_P.swap h
  rw [List.append_assoc (X ++ [x])] at h2
  exact h2
theorem vr_layD {X rows : va_W} {x : Nat × va_E} {pl : va_W} {A : Nat → Prop} (hD : va_D A (((X ++ pl) ++ [x]) ++ rows)) : va_D A ((X ++ [x]) ++ (pl ++ rows)) := by
  rw [List.append_assoc (X ++ pl)] at hD
  have h := va_D.swap hD
  rw [← List.append_assoc X] at h
  have h2 := va_D.swap h
  rw [List.append_assoc (X ++ [x])] at h2
  exact h2
theorem vr_outer (c : ClassId) (N h0 : Nat) : ∀ i : Nat, Jvm.Free.Multi.outerC c N h0 i = arrV c N (fun j => va_rf (if j < i then some (h0 + 1 + j) else none))
  | 0 => by
    show ({ cls := c, slots := Array.replicate N .null, vm := .none } : Cell) = _
    rw [arrV_new]
    refine congrArg (arrV c N) (funext fun j => ?_)
    simp [va_rf]
  | i + 1 => by
    show (Jvm.Free.Multi.outerC c N h0 i).setSlot i (.ref (h0 + 1 + i)) = _
    rw [vr_outer c N h0 i, arrV_store]
    refine congrArg (arrV c N) (funext fun j => ?_)
    by_cases e : j = i
    · subst e
      simp [updV, va_rf]
    · by_cases h : j < i
      · simp [updV, e, h, Nat.lt_succ_of_lt h]
      · simp [updV, e, h, show ¬ j < i + 1 by omega]
section VGM
variable {p : Program} {l : Launch} {e : Env} {R : Room} {s : State} {m : MethodId} {args : Array Value} {below : List Frame} {meth : Method} {c : Code} {H : Heap} {locs : List Loc} {cells slots : Nat} {Q : State → Prop}
variable {cc : ByteArray} {pc : Nat} {ls : Array Slot} {rest : List Value} {D : va_G} {cl : List vw_C} {A : Nat → Prop} {a : Nat} {tys : List (ClassId × FieldType)} {ws : va_W} {H0 : Heap}
theorem va_mna {X : va_W} {L : List Nat} {f : Nat → va_E} {cc : ByteArray} (hexec : p.tables.exec = Jvm.exec) (hb : c.code = cc) {own : String} {index : Nat} {ty : FieldType} {cy : ClassId} (hown : s.vm.findClass own = some m.cls) (hclink : (Cond.classLink own index ("[" ++ (FieldType.array ty).toString)).before args s = true) (hover : va_AOA ty s) (harr : (Cond.arrayClass ty).before args s = true) (hcy : s.vm.findClass (FieldType.array ty).toString = some cy)
    (hK : va_K D cl tys s) (hP : va_P D cl (X ++ va_pl L f) H) (hD : va_D A (X ++ va_pl L f)) (hS : va_S A H0 H locs) (hA : ∀ q, H0.size ≤ q → A q) {n k : Int32} {N' K' : Nat} {z : vp_A} (hn : ¬ n < 0) (hk : ¬ k < 0) (hN : n.toNatClampNeg = N') (hM : k.toNatClampNeg = K')
    (hb1 : N' * 4 ≤ 536870912) (hb2 : K' * componentBytes ty ≤ 536870912) (hb3 : K' ≤ 536870912) (hdf : fits ty (defaultValue ty) = true) (hdd : (defaultValue ty).isDefault = true) (hcells : cells + (1 + N') ≤ R.cells) (hslots : slots + (N' + N' * K') ≤ R.slots) (hz : ∀ c : ClassId, Jvm.Free.Multi.innerC c K' (defaultValue ty) = vp_cell c z) (hdg : decode cc pc = .ok (.multianewarray index 2, 4))
    (kk : ∀ (q : Nat) (r : Nat → Nat) (cA : ClassId) (H1 : Heap), (∀ i j : Nat, i < N' → j < N' → r i = r j → i = j) → (∀ i : Nat, i < N' → r i ∉ L) → va_K D cl (tys ++ [(cA, .array ty)]) s →
      va_P D cl ((X ++ [(q, .inl (cA, N', .inr (.inr (.inr (.inr (fun i => if i < N' then some (r i) else none))))))]) ++ va_pl (L ++ (List.range N').map r) (vr_up f ((List.range N').map r) (.inl (cy, z)))) H1 → va_D A ((X ++ [(q, .inl (cA, N', .inr (.inr (.inr (.inr (fun i => if i < N' then some (r i) else none))))))]) ++ va_pl (L ++ (List.range N').map r) (vr_up f ((List.range N').map r) (.inl (cy, z)))) → va_S A H0 H1 locs →
      W p l e R s m args below meth c H1 locs (cells + 1 + N') (slots + N' + N' * K') Q (F0 m (pc + 4) ls (.ref q :: rest))) : W p l e R s m args below meth c H locs cells slots Q (F0 m pc ls (.int k :: .int n :: rest)) := by
  subst hN
  subst hM
  intro T hT Xs
  obtain ⟨vm₁, cA, comp, -, fA, fC, hO, -, X', step⟩ := Xs.multianewarray2F hexec hown hclink (va_AOA.use hover) harr (g := F0 m pc ls (.int k :: .int n :: rest)) rfl (by rw [hb]; exact hdg) rfl hn hk hb1 hb2 hb3 hdf hdd hcells hslots
  have ec : some cy = some comp := hcy.symm.trans fC
  cases ec
  generalize hF : Jvm.Free.Multi.fill (T.setVm vm₁) cA cy n.toNatClampNeg k.toNatClampNeg (defaultValue ty) n.toNatClampNeg = F at X' step
  have hTh : (T.setVm vm₁).heap = H := hT
  obtain ⟨f1, f2, -, -⟩ := Jvm.Free.Multi.fill_facts (T.setVm vm₁) cA cy n.toNatClampNeg k.toNatClampNeg (defaultValue ty) n.toNatClampNeg
  rw [hF, hTh] at f1 f2
  have hold : ∀ x : Nat, x < H.size → F.heap[x]? = H[x]? := fun x hx => by
    have := Jvm.Free.Multi.fill_old (T.setVm vm₁) cA cy n.toNatClampNeg k.toNatClampNeg (defaultValue ty) (a := x) (by rw [hTh]; exact hx) n.toNatClampNeg
    rw [hF, hTh] at this
    exact this
  have hrow : ∀ j : Nat, j < n.toNatClampNeg → F.heap[H.size + 1 + j]? = some (vp_cell cy z) := fun j hj => by
    have := Jvm.Free.Multi.fill_inner (T.setVm vm₁) cA cy n.toNatClampNeg k.toNatClampNeg (defaultValue ty) n.toNatClampNeg j hj
    rw [hF, hTh, hz] at this
    exact this
  have hout : Jvm.Free.Multi.outerC cA n.toNatClampNeg H.size n.toNatClampNeg = vp_cell cA (n.toNatClampNeg, .inr (.inr (.inr (.inr (fun i => if i < n.toNatClampNeg then some (H.size + 1 + i) else none))))) := by
    rw [vp_cell_q]
    exact vr_outer cA n.toNatClampNeg H.size n.toNatClampNeg
  rw [hout] at f2
  have hlt : ∀ a, a ∈ L → a < H.size := fun a ha => by
    obtain ⟨k9, hk9⟩ := va_pl_get (X := X) (f := f) ha
    exact (hP k9 _ hk9).lt
  have hnl : ∀ i : Nat, i < n.toNatClampNeg → H.size + 1 + i ∉ L := fun i _ h => by
    have := hlt _ h
    omega
  have hnm : ∀ a, a ∈ (List.range n.toNatClampNeg).map (fun i => H.size + 1 + i) → a ∉ L := fun a ha h => by
    obtain ⟨i, -, rfl⟩ := List.mem_map.mp ha
    have := hlt _ h
    omega
  have hP0 : va_P D cl (X ++ va_pl L f) F.heap := hP.kept (fun k9 x hx => hold x.1 ((hP k9 x hx).lt))
  have hP1 : va_P D cl ((X ++ va_pl L f) ++ [(H.size, .inl (cA, n.toNatClampNeg, .inr (.inr (.inr (.inr (fun i => if i < n.toNatClampNeg then some (H.size + 1 + i) else none))))))]) F.heap := hP0.app (fun k9 x hx => by
    have h0 : k9 < 1 := (List.getElem?_eq_some_iff.mp hx).1
    rw [show k9 = 0 by omega] at hx
    cases hx
    exact f2)
  have hP2 : va_P D cl (((X ++ va_pl L f) ++ [(H.size, .inl (cA, n.toNatClampNeg, .inr (.inr (.inr (.inr (fun i => if i < n.toNatClampNeg then some (H.size + 1 + i) else none))))))]) ++ ((List.range n.toNatClampNeg).map (fun i => H.size + 1 + i)).map (fun a => (a, .inl (cy, z)))) F.heap := hP1.app (fun k9 x hx => by
    obtain ⟨a, ha, rfl⟩ := List.mem_map.mp (List.mem_of_getElem? hx)
    obtain ⟨i, hi, rfl⟩ := List.mem_map.mp ha
    exact hrow i (List.mem_range.mp hi))
  have hD2 : va_D A (((X ++ va_pl L f) ++ [(H.size, .inl (cA, n.toNatClampNeg, .inr (.inr (.inr (.inr (fun i => if i < n.toNatClampNeg then some (H.size + 1 + i) else none))))))]) ++ ((List.range n.toNatClampNeg).map (fun i => H.size + 1 + i)).map (fun a => (a, .inl (cy, z)))) := by
    have hD1 := hD.push (e := .inl (cA, n.toNatClampNeg, .inr (.inr (.inr (.inr (fun i => if i < n.toNatClampNeg then some (H.size + 1 + i) else none)))))) hP rfl (hA _ hS.1)
    generalize hW1 : (X ++ va_pl L f) ++ [(H.size, .inl (cA, n.toNatClampNeg, .inr (.inr (.inr (.inr (fun i => if i < n.toNatClampNeg then some (H.size + 1 + i) else none))))))] = W1 at hD1 hP1 ⊢
    have hle : ∀ (k9 : Nat) (x : Nat × va_E), W1[k9]? = some x → x.1 ≤ H.size := fun k9 x hx => by
      rw [← hW1] at hx
      by_cases hl : k9 < (X ++ va_pl L f).length
      · rw [List.getElem?_append_left hl] at hx
        exact Nat.le_of_lt ((hP k9 x hx).lt)
      · rw [List.getElem?_append_right (by omega)] at hx
        have h0 : k9 - (X ++ va_pl L f).length < 1 := (List.getElem?_eq_some_iff.mp hx).1
        rw [show k9 - (X ++ va_pl L f).length = 0 by omega] at hx
        cases hx
        exact Nat.le_refl _
    have hr : ∀ (k9 : Nat) (x : Nat × va_E), (((List.range n.toNatClampNeg).map (fun i => H.size + 1 + i)).map (fun a => ((a, .inl (cy, z)) : Nat × va_E)))[k9]? = some x → x.1 = H.size + 1 + k9 := fun k9 x hx => by
      rw [List.getElem?_map, List.getElem?_map] at hx
      by_cases h9 : k9 < n.toNatClampNeg
      · rw [List.getElem?_range h9] at hx
        cases hx
        rfl
      · have hn0 : (List.range n.toNatClampNeg)[k9]? = none := List.getElem?_eq_none (by rw [List.length_range]; omega)
        rw [hn0] at hx
        cases hx
    refine ⟨fun i j x y hi hj hxy => ?_, fun k9 x hx => ?_⟩
    · by_cases h1 : i < W1.length <;> by_cases h2 : j < W1.length
      · rw [List.getElem?_append_left h1] at hi
        rw [List.getElem?_append_left h2] at hj
        exact hD1.1 i j x y hi hj hxy
      · rw [List.getElem?_append_left h1] at hi
        rw [List.getElem?_append_right (by omega)] at hj
        have := hle _ _ hi
        have := hr _ _ hj
        omega
      · rw [List.getElem?_append_right (by omega)] at hi
        rw [List.getElem?_append_left h2] at hj
        have := hle _ _ hj
        have := hr _ _ hi
        omega
      · rw [List.getElem?_append_right (by omega)] at hi hj
        have := hr _ _ hi
        have := hr _ _ hj
        omega
    · by_cases h1 : k9 < W1.length
      · rw [List.getElem?_append_left h1] at hx
        exact hD1.2 k9 x hx
      · rw [List.getElem?_append_right (by omega)] at hx
        have := hr _ _ hx
        exact hA _ (by have := hS.1; omega)
  have hAr : ArrOfT s cA (.array ty) := fun N9 z9 => by
    obtain ⟨-, k9, hk9, cm9, hkk9⟩ := (hO 0 0 0).1
    exact ⟨(fun q hq => by cases hq), k9, hk9, cm9, hkk9⟩
  have hK2 : va_K D cl (tys ++ [(cA, .array ty)]) s := ⟨hK.1, fun k9 x hx => by
    by_cases hl : k9 < tys.length
    · rw [List.getElem?_append_left hl] at hx
      exact hK.2 k9 x hx
    · rw [List.getElem?_append_right (by omega)] at hx
      have h0 : k9 - tys.length < 1 := (List.getElem?_eq_some_iff.mp hx).1
      rw [show k9 - tys.length = 0 by omega] at hx
      cases hx
      exact ⟨hAr, fA⟩⟩
  obtain ⟨t, a1, b1⟩ := kk H.size (fun i => H.size + 1 + i) cA F.heap (fun i j _ _ h => by have h9 : H.size + 1 + i = H.size + 1 + j := h; omega) hnl hK2 (by rw [← vr_rows hnm]; exact vr_lay hP2) (by rw [← vr_rows hnm]; exact vr_layD hD2) ⟨by rw [f1]; have := hS.1; omega, fun x h1 h2 => (hold x (Nat.lt_of_lt_of_le h1 hS.1)).trans (hS.2.1 x h1 h2), hS.2.2⟩ F rfl X'
  refine ⟨t, step t ?_, b1⟩
  have e : T.heap.size = H.size := by rw [hT]
  rw [e]
  exact a1
end VGM
/-! ===== END ===== -/

/-! ===== BEGIN printed: names, fields, word lists, decode rows ===== -/
def RX0 : String := "PeerCircle$Farm"
def TX0 : u_T := fun k => match k with
  | 0 => ("PeerCircle$Farm", "family", "I", true)
  | 1 => ("PeerCircle$Farm", "group", "I", true)
  | 2 => ("PeerCircle$Farm", "hasSeal", "Z", false)
  | 3 => ("PeerCircle$Farm", "step", "I", false)
  | 4 => ("PeerCircle$Farm", "yearsOut", "I", false)
  | 5 => ("PeerCircle$Farm", "soldEver", "I", false)
  | 6 => ("PeerCircle$Farm", "soldThisYear", "I", false)
  | _ => ("PeerCircle$Farm", "doubtful", "I", false)
def tyX0 : Nat → FieldType := fun k => match k with
  | 0 => .int
  | 1 => .int
  | 2 => .boolean
  | 3 => .int
  | 4 => .int
  | 5 => .int
  | 6 => .int
  | _ => .int
abbrev wsX00 : List Cond := u_ws RX0 TX0 8
theorem nmX0 : ∀ a, a < 8 → ∀ b, b < 8 → a ≠ b → (TX0 a).2.1 ≠ (TX0 b).2.1 := by decide +kernel
theorem tyX0_ok : ∀ k, k < 8 → parseFieldDescriptor (TX0 k).2.2.1 = some (tyX0 k) := by decide +kernel
abbrev cX0_init : ByteArray := prog_2_method_1_code
def yX0_init : MethodName := ⟨RX0, "<init>", "(II)V"⟩
abbrev cX0_isOut : ByteArray := prog_2_method_2_code
def yX0_isOut : MethodName := ⟨RX0, "isOut", "()Z"⟩
abbrev cX0_sellBaskets : ByteArray := prog_2_method_3_code
def yX0_sellBaskets : MethodName := ⟨RX0, "sellBaskets", "(I)V"⟩
abbrev cX0_countDoubtful : ByteArray := prog_2_method_4_code
def yX0_countDoubtful : MethodName := ⟨RX0, "countDoubtful", "(Z)V"⟩
abbrev cX0_goOn : ByteArray := prog_2_method_5_code
def yX0_goOn : MethodName := ⟨RX0, "goOn", "(IILPeerCircle$Rules;)V"⟩
abbrev cX0_changeStep : ByteArray := prog_2_method_6_code
def yX0_changeStep : MethodName := ⟨RX0, "changeStep", "(ILPeerCircle$Rules;)V"⟩
def RX1 : String := "PeerCircle$Planner"
def TX1 : u_T := fun k => match k with
  | 0 => ("PeerCircle$Planner", "ways", "[I", true)
  | 1 => ("PeerCircle$Planner", "cameFrom", "[I", true)
  | 2 => ("PeerCircle$Planner", "queue", "[I", true)
  | 3 => ("PeerCircle$Planner", "visitors", "[I", true)
  | 4 => ("PeerCircle$Planner", "visitsMade", "[I", true)
  | 5 => ("PeerCircle$Planner", "mostVisitors", "I", false)
  | _ => ("PeerCircle$Planner", "mostVisits", "I", false)
def tyX1 : Nat → FieldType := fun k => match k with
  | 0 => .array .int
  | 1 => .array .int
  | 2 => .array .int
  | 3 => .array .int
  | 4 => .array .int
  | 5 => .int
  | _ => .int
abbrev wsX10 : List Cond := u_ws RX1 TX1 7
theorem nmX1 : ∀ a, a < 7 → ∀ b, b < 7 → a ≠ b → (TX1 a).2.1 ≠ (TX1 b).2.1 := by decide +kernel
theorem tyX1_ok : ∀ k, k < 7 → parseFieldDescriptor (TX1 k).2.2.1 = some (tyX1 k) := by decide +kernel
abbrev cX1_init : ByteArray := prog_3_method_1_code
def yX1_init : MethodName := ⟨RX1, "<init>", "()V"⟩
abbrev cX1_visitorsOf : ByteArray := prog_3_method_2_code
def yX1_visitorsOf : MethodName := ⟨RX1, "visitorsOf", "(I)I"⟩
abbrev cX1_begin : ByteArray := prog_3_method_3_code
def yX1_begin : MethodName := ⟨RX1, "begin", "(II)V"⟩
abbrev cX1_allow : ByteArray := prog_3_method_4_code
def yX1_allow : MethodName := ⟨RX1, "allow", "(II)V"⟩
abbrev cX1_planMost : ByteArray := prog_3_method_5_code
def yX1_planMost : MethodName := ⟨RX1, "planMost", "()V"⟩
abbrev cX1_planLeastRow : ByteArray := prog_3_method_6_code
def yX1_planLeastRow : MethodName := ⟨RX1, "planLeastRow", "(I)V"⟩
abbrev cX1_placeVisited : ByteArray := prog_3_method_7_code
def yX1_placeVisited : MethodName := ⟨RX1, "placeVisited", "(I)I"⟩
abbrev cX1_setWay : ByteArray := prog_3_method_8_code
def yX1_setWay : MethodName := ⟨RX1, "setWay", "(IIZ)V"⟩
abbrev cX1_openByLimits : ByteArray := prog_3_method_9_code
def yX1_openByLimits : MethodName := ⟨RX1, "openByLimits", "(II)V"⟩
abbrev cX1_addVisit : ByteArray := prog_3_method_10_code
def yX1_addVisit : MethodName := ⟨RX1, "addVisit", "(II)V"⟩
abbrev cX1_dropVisit : ByteArray := prog_3_method_11_code
def yX1_dropVisit : MethodName := ⟨RX1, "dropVisit", "(II)V"⟩
abbrev cX1_findPath : ByteArray := prog_3_method_12_code
def yX1_findPath : MethodName := ⟨RX1, "findPath", "(II)Z"⟩
abbrev cX1_lowestBit : ByteArray := prog_3_method_13_code
def yX1_lowestBit : MethodName := ⟨RX1, "lowestBit", "(I)I"⟩
abbrev cX1_followPath : ByteArray := prog_3_method_14_code
def yX1_followPath : MethodName := ⟨RX1, "followPath", "(II)V"⟩
abbrev cX1_moveVisit : ByteArray := prog_3_method_15_code
def yX1_moveVisit : MethodName := ⟨RX1, "moveVisit", "(II)V"⟩
def RX2 : String := "PeerCircle$Rules"
def TX2 : u_T := fun k => match k with
  | 0 => ("PeerCircle$Rules", "numbers", "[I", true)
  | 1 => ("PeerCircle$Rules", "draft", "[I", true)
  | _ => ("PeerCircle$Rules", "place", "I", false)
def tyX2 : Nat → FieldType := fun k => match k with
  | 0 => .array .int
  | 1 => .array .int
  | _ => .int
abbrev wsX20 : List Cond := u_ws RX2 TX2 3
theorem nmX2 : ∀ a, a < 3 → ∀ b, b < 3 → a ≠ b → (TX2 a).2.1 ≠ (TX2 b).2.1 := by decide +kernel
theorem tyX2_ok : ∀ k, k < 3 → parseFieldDescriptor (TX2 k).2.2.1 = some (tyX2 k) := by decide +kernel
abbrev cX2_init : ByteArray := prog_4_method_1_code
def yX2_init : MethodName := ⟨RX2, "<init>", "()V"⟩
abbrev cX2_number : ByteArray := prog_4_method_2_code
def yX2_number : MethodName := ⟨RX2, "number", "(I)I"⟩
abbrev cX2_read : ByteArray := prog_4_method_3_code
def yX2_read : MethodName := ⟨RX2, "read", "(LPeerCircle$Tape;)I"⟩
abbrev cX2_readClause : ByteArray := prog_4_method_4_code
def yX2_readClause : MethodName := ⟨RX2, "readClause", "(LPeerCircle$Tape;)I"⟩
abbrev cX2_readDigits : ByteArray := prog_4_method_5_code
def yX2_readDigits : MethodName := ⟨RX2, "readDigits", "(LPeerCircle$Tape;)I"⟩
abbrev cX2_kindOf : ByteArray := prog_4_method_6_code
def yX2_kindOf : MethodName := ⟨RX2, "kindOf", "(I)I"⟩
abbrev cX2_faultAt : ByteArray := prog_4_method_7_code
def yX2_faultAt : MethodName := ⟨RX2, "faultAt", "(II)I"⟩
def RX3 : String := "PeerCircle$Tape"
def TX3 : u_T := fun k => match k with
  | 0 => ("PeerCircle$Tape", "bytes", "[I", true)
  | _ => ("PeerCircle$Tape", "size", "I", false)
def tyX3 : Nat → FieldType := fun k => match k with
  | 0 => .array .int
  | _ => .int
abbrev wsX30 : List Cond := u_ws RX3 TX3 2
theorem nmX3 : ∀ a, a < 2 → ∀ b, b < 2 → a ≠ b → (TX3 a).2.1 ≠ (TX3 b).2.1 := by decide +kernel
theorem tyX3_ok : ∀ k, k < 2 → parseFieldDescriptor (TX3 k).2.2.1 = some (tyX3 k) := by decide +kernel
abbrev cX3_init : ByteArray := prog_5_method_1_code
def yX3_init : MethodName := ⟨RX3, "<init>", "()V"⟩
abbrev cX3_size : ByteArray := prog_5_method_2_code
def yX3_size : MethodName := ⟨RX3, "size", "()I"⟩
abbrev cX3_takesFeed : ByteArray := prog_5_method_3_code
def yX3_takesFeed : MethodName := ⟨RX3, "takesFeed", "()Z"⟩
abbrev cX3_put : ByteArray := prog_5_method_4_code
def yX3_put : MethodName := ⟨RX3, "put", "(I)V"⟩
abbrev cX3_cutTo : ByteArray := prog_5_method_5_code
def yX3_cutTo : MethodName := ⟨RX3, "cutTo", "(I)V"⟩
abbrev cX3_at : ByteArray := prog_5_method_6_code
def yX3_at : MethodName := ⟨RX3, "at", "(I)I"⟩
abbrev cX3_hasDigitAt : ByteArray := prog_5_method_7_code
def yX3_hasDigitAt : MethodName := ⟨RX3, "hasDigitAt", "(I)Z"⟩
def RX4 : String := "PeerCircle$Visits"
def TX4 : u_T := fun k => match k with
  | 0 => ("PeerCircle$Visits", "visitors", "[I", true)
  | 1 => ("PeerCircle$Visits", "visitorsBefore", "[I", true)
  | 2 => ("PeerCircle$Visits", "told", "[[I", true)
  | _ => ("PeerCircle$Visits", "laid", "Z", false)
def tyX4 : Nat → FieldType := fun k => match k with
  | 0 => .array .int
  | 1 => .array .int
  | 2 => .array (.array .int)
  | _ => .boolean
abbrev wsX40 : List Cond := u_ws RX4 TX4 4
theorem nmX4 : ∀ a, a < 4 → ∀ b, b < 4 → a ≠ b → (TX4 a).2.1 ≠ (TX4 b).2.1 := by decide +kernel
theorem tyX4_ok : ∀ k, k < 4 → parseFieldDescriptor (TX4 k).2.2.1 = some (tyX4 k) := by decide +kernel
abbrev cX4_init : ByteArray := prog_6_method_1_code
def yX4_init : MethodName := ⟨RX4, "<init>", "()V"⟩
abbrev cX4_areLaid : ByteArray := prog_6_method_2_code
def yX4_areLaid : MethodName := ⟨RX4, "areLaid", "()Z"⟩
abbrev cX4_setLaid : ByteArray := prog_6_method_3_code
def yX4_setLaid : MethodName := ⟨RX4, "setLaid", "()V"⟩
abbrev cX4_setVisitors : ByteArray := prog_6_method_4_code
def yX4_setVisitors : MethodName := ⟨RX4, "setVisitors", "(II)V"⟩
abbrev cX4_isVisitor : ByteArray := prog_6_method_5_code
def yX4_isVisitor : MethodName := ⟨RX4, "isVisitor", "(II)Z"⟩
abbrev cX4_wasVisitor : ByteArray := prog_6_method_6_code
def yX4_wasVisitor : MethodName := ⟨RX4, "wasVisitor", "(II)Z"⟩
abbrev cX4_visitorCount : ByteArray := prog_6_method_7_code
def yX4_visitorCount : MethodName := ⟨RX4, "visitorCount", "(I)I"⟩
abbrev cX4_visitsBy : ByteArray := prog_6_method_8_code
def yX4_visitsBy : MethodName := ⟨RX4, "visitsBy", "(I)I"⟩
abbrev cX4_total : ByteArray := prog_6_method_9_code
def yX4_total : MethodName := ⟨RX4, "total", "()I"⟩
abbrev cX4_visitorAt : ByteArray := prog_6_method_10_code
def yX4_visitorAt : MethodName := ⟨RX4, "visitorAt", "(II)I"⟩
abbrev cX4_tell : ByteArray := prog_6_method_11_code
def yX4_tell : MethodName := ⟨RX4, "tell", "(IIIZ)V"⟩
abbrev cX4_breachesAt : ByteArray := prog_6_method_12_code
def yX4_breachesAt : MethodName := ⟨RX4, "breachesAt", "(I)I"⟩
abbrev cX4_vouchersFor : ByteArray := prog_6_method_13_code
def yX4_vouchersFor : MethodName := ⟨RX4, "vouchersFor", "(I)I"⟩
abbrev cX4_vouchedForBy : ByteArray := prog_6_method_14_code
def yX4_vouchedForBy : MethodName := ⟨RX4, "vouchedForBy", "(I)I"⟩
abbrev cX4_endYear : ByteArray := prog_6_method_15_code
def yX4_endYear : MethodName := ⟨RX4, "endYear", "()V"⟩
def RX5 : String := "PeerCircle"
def TX5 : u_T := fun k => match k with
  | 0 => ("PeerCircle", "tape", "LPeerCircle$Tape;", true)
  | 1 => ("PeerCircle", "ruling", "LPeerCircle$Rules;", true)
  | 2 => ("PeerCircle", "visits", "LPeerCircle$Visits;", true)
  | 3 => ("PeerCircle", "planner", "LPeerCircle$Planner;", true)
  | 4 => ("PeerCircle", "farms", "[LPeerCircle$Farm;", true)
  | 5 => ("PeerCircle", "sellers", "[I", true)
  | 6 => ("PeerCircle", "weights", "[I", true)
  | 7 => ("PeerCircle", "farmCount", "I", false)
  | _ => ("PeerCircle", "yearNow", "I", false)
def tyX5 : Nat → FieldType := fun k => match k with
  | 0 => .object "PeerCircle$Tape"
  | 1 => .object "PeerCircle$Rules"
  | 2 => .object "PeerCircle$Visits"
  | 3 => .object "PeerCircle$Planner"
  | 4 => .array (.object "PeerCircle$Farm")
  | 5 => .array .int
  | 6 => .array .int
  | 7 => .int
  | _ => .int
abbrev wsX50 : List Cond := u_ws RX5 TX5 9
theorem nmX5 : ∀ a, a < 9 → ∀ b, b < 9 → a ≠ b → (TX5 a).2.1 ≠ (TX5 b).2.1 := by decide +kernel
theorem tyX5_ok : ∀ k, k < 9 → parseFieldDescriptor (TX5 k).2.2.1 = some (tyX5 k) := by decide +kernel
abbrev cX5_init : ByteArray := prog_1_method_1_code
def yX5_init : MethodName := ⟨RX5, "<init>", "()V"⟩
abbrev cX5_feed : ByteArray := prog_1_method_2_code
def yX5_feed : MethodName := ⟨RX5, "feed", "(IIIII)I"⟩
abbrev cX5_rules : ByteArray := prog_1_method_3_code
def yX5_rules : MethodName := ⟨RX5, "rules", "(I)I"⟩
abbrev cX5_farm : ByteArray := prog_1_method_4_code
def yX5_farm : MethodName := ⟨RX5, "farm", "(II)I"⟩
abbrev cX5_buys : ByteArray := prog_1_method_5_code
def yX5_buys : MethodName := ⟨RX5, "buys", "(IIZ)Z"⟩
abbrev cX5_weight : ByteArray := prog_1_method_6_code
def yX5_weight : MethodName := ⟨RX5, "weight", "(II)Z"⟩
abbrev cX5_lay : ByteArray := prog_1_method_7_code
def yX5_lay : MethodName := ⟨RX5, "lay", "()I"⟩
abbrev cX5_visitor : ByteArray := prog_1_method_8_code
def yX5_visitor : MethodName := ⟨RX5, "visitor", "(II)I"⟩
abbrev cX5_tells : ByteArray := prog_1_method_9_code
def yX5_tells : MethodName := ⟨RX5, "tells", "(IIIZ)Z"⟩
abbrev cX5_breaches : ByteArray := prog_1_method_10_code
def yX5_breaches : MethodName := ⟨RX5, "breaches", "(I)I"⟩
abbrev cX5_weighs : ByteArray := prog_1_method_11_code
def yX5_weighs : MethodName := ⟨RX5, "weighs", "(I)I"⟩
abbrev cX5_vouches : ByteArray := prog_1_method_12_code
def yX5_vouches : MethodName := ⟨RX5, "vouches", "(II)I"⟩
abbrev cX5_trust : ByteArray := prog_1_method_13_code
def yX5_trust : MethodName := ⟨RX5, "trust", "(II)I"⟩
abbrev cX5_sell : ByteArray := prog_1_method_14_code
def yX5_sell : MethodName := ⟨RX5, "sell", "(II)Z"⟩
abbrev cX5_year : ByteArray := prog_1_method_15_code
def yX5_year : MethodName := ⟨RX5, "year", "()I"⟩
abbrev cX5_sealed : ByteArray := prog_1_method_16_code
def yX5_sealed : MethodName := ⟨RX5, "sealed", "(I)I"⟩
abbrev cX5_barred : ByteArray := prog_1_method_17_code
def yX5_barred : MethodName := ⟨RX5, "barred", "(II)I"⟩
abbrev cX5_look : ByteArray := prog_1_method_18_code
def yX5_look : MethodName := ⟨RX5, "look", "(II)I"⟩
abbrev cX5_count : ByteArray := prog_1_method_19_code
def yX5_count : MethodName := ⟨RX5, "count", "(I)I"⟩
abbrev cX5_isBelow : ByteArray := prog_1_method_20_code
def yX5_isBelow : MethodName := ⟨RX5, "isBelow", "(II)Z"⟩
abbrev cX5_hasBit : ByteArray := prog_1_method_21_code
def yX5_hasBit : MethodName := ⟨RX5, "hasBit", "(II)Z"⟩
abbrev cX5_oneIf : ByteArray := prog_1_method_22_code
def yX5_oneIf : MethodName := ⟨RX5, "oneIf", "(Z)I"⟩
abbrev cX5_isFarm : ByteArray := prog_1_method_23_code
def yX5_isFarm : MethodName := ⟨RX5, "isFarm", "(I)Z"⟩
abbrev cX5_areFarms : ByteArray := prog_1_method_24_code
def yX5_areFarms : MethodName := ⟨RX5, "areFarms", "(II)Z"⟩
abbrev cX5_farmAt : ByteArray := prog_1_method_25_code
def yX5_farmAt : MethodName := ⟨RX5, "farmAt", "(I)LPeerCircle$Farm;"⟩
abbrev cX5_buysFrom : ByteArray := prog_1_method_26_code
def yX5_buysFrom : MethodName := ⟨RX5, "buysFrom", "(II)Z"⟩
abbrev cX5_isBarred : ByteArray := prog_1_method_27_code
def yX5_isBarred : MethodName := ⟨RX5, "isBarred", "(II)Z"⟩
abbrev cX5_areKin : ByteArray := prog_1_method_28_code
def yX5_areKin : MethodName := ⟨RX5, "areKin", "(II)Z"⟩
abbrev cX5_weightOf : ByteArray := prog_1_method_29_code
def yX5_weightOf : MethodName := ⟨RX5, "weightOf", "(I)I"⟩
abbrev cX5_countSeals : ByteArray := prog_1_method_30_code
def yX5_countSeals : MethodName := ⟨RX5, "countSeals", "()I"⟩
abbrev cX5_countOut : ByteArray := prog_1_method_31_code
def yX5_countOut : MethodName := ⟨RX5, "countOut", "()I"⟩
def RX6 : String := "PeerCircleModel"
def TX6 : u_T := fun k => match k with
  | 0 => ("PeerCircleModel", "tape", "[B", true)
  | 1 => ("PeerCircleModel", "taped", "I", false)
  | 2 => ("PeerCircleModel", "farms", "I", false)
  | 3 => ("PeerCircleModel", "year", "I", false)
  | 4 => ("PeerCircleModel", "isLaid", "Z", false)
  | 5 => ("PeerCircleModel", "rule", "[I", true)
  | 6 => ("PeerCircleModel", "read", "[I", true)
  | 7 => ("PeerCircleModel", "family", "[I", true)
  | 8 => ("PeerCircleModel", "group", "[I", true)
  | 9 => ("PeerCircleModel", "weight", "[I", true)
  | 10 => ("PeerCircleModel", "hasSeal", "[Z", true)
  | 11 => ("PeerCircleModel", "step", "[I", true)
  | 12 => ("PeerCircleModel", "out", "[I", true)
  | 13 => ("PeerCircleModel", "sold", "[I", true)
  | 14 => ("PeerCircleModel", "doubtful", "[I", true)
  | 15 => ("PeerCircleModel", "now", "[I", true)
  | 16 => ("PeerCircleModel", "isBuyer", "[Z", true)
  | 17 => ("PeerCircleModel", "visits", "[Z", true)
  | 18 => ("PeerCircleModel", "had", "[Z", true)
  | 19 => ("PeerCircleModel", "broken", "[I", true)
  | 20 => ("PeerCircleModel", "fixed", "[Z", true)
  | 21 => ("PeerCircleModel", "open", "[Z", true)
  | 22 => ("PeerCircleModel", "flow", "[Z", true)
  | 23 => ("PeerCircleModel", "makes", "[I", true)
  | 24 => ("PeerCircleModel", "gets", "[I", true)
  | 25 => ("PeerCircleModel", "toVisitor", "[I", true)
  | 26 => ("PeerCircleModel", "toFarm", "[I", true)
  | 27 => ("PeerCircleModel", "queue", "[I", true)
  | _ => ("PeerCircleModel", "far", "[I", true)
def tyX6 : Nat → FieldType := fun k => match k with
  | 0 => .array .byte
  | 1 => .int
  | 2 => .int
  | 3 => .int
  | 4 => .boolean
  | 5 => .array .int
  | 6 => .array .int
  | 7 => .array .int
  | 8 => .array .int
  | 9 => .array .int
  | 10 => .array .boolean
  | 11 => .array .int
  | 12 => .array .int
  | 13 => .array .int
  | 14 => .array .int
  | 15 => .array .int
  | 16 => .array .boolean
  | 17 => .array .boolean
  | 18 => .array .boolean
  | 19 => .array .int
  | 20 => .array .boolean
  | 21 => .array .boolean
  | 22 => .array .boolean
  | 23 => .array .int
  | 24 => .array .int
  | 25 => .array .int
  | 26 => .array .int
  | 27 => .array .int
  | _ => .array .int
abbrev wsX60 : List Cond := u_ws RX6 TX6 29
theorem nmX6 : ∀ a, a < 29 → ∀ b, b < 29 → a ≠ b → (TX6 a).2.1 ≠ (TX6 b).2.1 := by decide +kernel
theorem tyX6_ok : ∀ k, k < 29 → parseFieldDescriptor (TX6 k).2.2.1 = some (tyX6 k) := by decide +kernel
abbrev cX6_init : ByteArray := prog_8_method_1_code
def yX6_init : MethodName := ⟨RX6, "<init>", "()V"⟩
abbrev cX6_lies : ByteArray := prog_8_method_2_code
def yX6_lies : MethodName := ⟨RX6, "lies", "(III)Z"⟩
abbrev cX6_push : ByteArray := prog_8_method_3_code
def yX6_push : MethodName := ⟨RX6, "push", "(I)V"⟩
abbrev cX6_feed : ByteArray := prog_8_method_4_code
def yX6_feed : MethodName := ⟨RX6, "feed", "(IIIII)I"⟩
abbrev cX6_asAtFirst : ByteArray := prog_8_method_5_code
def yX6_asAtFirst : MethodName := ⟨RX6, "asAtFirst", "([I)V"⟩
abbrev cX6_letter : ByteArray := prog_8_method_6_code
def yX6_letter : MethodName := ⟨RX6, "letter", "(I)I"⟩
abbrev cX6_canBe : ByteArray := prog_8_method_7_code
def yX6_canBe : MethodName := ⟨RX6, "canBe", "(II)Z"⟩
abbrev cX6_at : ByteArray := prog_8_method_8_code
def yX6_at : MethodName := ⟨RX6, "at", "(II)I"⟩
abbrev cX6_reads : ByteArray := prog_8_method_9_code
def yX6_reads : MethodName := ⟨RX6, "reads", "(I)I"⟩
abbrev cX6_rules : ByteArray := prog_8_method_10_code
def yX6_rules : MethodName := ⟨RX6, "rules", "(I)I"⟩
abbrev cX6_isFarm : ByteArray := prog_8_method_11_code
def yX6_isFarm : MethodName := ⟨RX6, "isFarm", "(I)Z"⟩
abbrev cX6_farm : ByteArray := prog_8_method_12_code
def yX6_farm : MethodName := ⟨RX6, "farm", "(II)I"⟩
abbrev cX6_buys : ByteArray := prog_8_method_13_code
def yX6_buys : MethodName := ⟨RX6, "buys", "(IIZ)Z"⟩
abbrev cX6_weight : ByteArray := prog_8_method_14_code
def yX6_weight : MethodName := ⟨RX6, "weight", "(II)Z"⟩
abbrev cX6_isBarred : ByteArray := prog_8_method_15_code
def yX6_isBarred : MethodName := ⟨RX6, "isBarred", "(II)Z"⟩
abbrev cX6_barred : ByteArray := prog_8_method_16_code
def yX6_barred : MethodName := ⟨RX6, "barred", "(II)I"⟩
abbrev cX6_grows : ByteArray := prog_8_method_17_code
def yX6_grows : MethodName := ⟨RX6, "grows", "()Z"⟩
abbrev cX6_turns : ByteArray := prog_8_method_18_code
def yX6_turns : MethodName := ⟨RX6, "turns", "(I)V"⟩
abbrev cX6_most : ByteArray := prog_8_method_19_code
def yX6_most : MethodName := ⟨RX6, "most", "()I"⟩
abbrev cX6_lay : ByteArray := prog_8_method_20_code
def yX6_lay : MethodName := ⟨RX6, "lay", "()I"⟩
abbrev cX6_isVisit : ByteArray := prog_8_method_21_code
def yX6_isVisit : MethodName := ⟨RX6, "isVisit", "(II)Z"⟩
abbrev cX6_visitorsOf : ByteArray := prog_8_method_22_code
def yX6_visitorsOf : MethodName := ⟨RX6, "visitorsOf", "(I)I"⟩
abbrev cX6_visitor : ByteArray := prog_8_method_23_code
def yX6_visitor : MethodName := ⟨RX6, "visitor", "(II)I"⟩
abbrev cX6_tells : ByteArray := prog_8_method_24_code
def yX6_tells : MethodName := ⟨RX6, "tells", "(IIIZ)Z"⟩
abbrev cX6_breachesAt : ByteArray := prog_8_method_25_code
def yX6_breachesAt : MethodName := ⟨RX6, "breachesAt", "(I)I"⟩
abbrev cX6_weighsAt : ByteArray := prog_8_method_26_code
def yX6_weighsAt : MethodName := ⟨RX6, "weighsAt", "(I)I"⟩
abbrev cX6_breaches : ByteArray := prog_8_method_27_code
def yX6_breaches : MethodName := ⟨RX6, "breaches", "(I)I"⟩
abbrev cX6_weighs : ByteArray := prog_8_method_28_code
def yX6_weighs : MethodName := ⟨RX6, "weighs", "(I)I"⟩
abbrev cX6_isVouched : ByteArray := prog_8_method_29_code
def yX6_isVouched : MethodName := ⟨RX6, "isVouched", "(II)Z"⟩
abbrev cX6_vouches : ByteArray := prog_8_method_30_code
def yX6_vouches : MethodName := ⟨RX6, "vouches", "(II)I"⟩
abbrev cX6_trust : ByteArray := prog_8_method_31_code
def yX6_trust : MethodName := ⟨RX6, "trust", "(II)I"⟩
abbrev cX6_sell : ByteArray := prog_8_method_32_code
def yX6_sell : MethodName := ⟨RX6, "sell", "(II)Z"⟩
abbrev cX6_goesOut : ByteArray := prog_8_method_33_code
def yX6_goesOut : MethodName := ⟨RX6, "goesOut", "(I)V"⟩
abbrev cX6_goesBy : ByteArray := prog_8_method_34_code
def yX6_goesBy : MethodName := ⟨RX6, "goesBy", "(I)V"⟩
abbrev cX6_year : ByteArray := prog_8_method_35_code
def yX6_year : MethodName := ⟨RX6, "year", "()I"⟩
abbrev cX6_sealed : ByteArray := prog_8_method_36_code
def yX6_sealed : MethodName := ⟨RX6, "sealed", "(I)I"⟩
abbrev cX6_look : ByteArray := prog_8_method_37_code
def yX6_look : MethodName := ⟨RX6, "look", "(II)I"⟩
abbrev cX6_count : ByteArray := prog_8_method_38_code
def yX6_count : MethodName := ⟨RX6, "count", "(I)I"⟩
def RJ11 : String := "java/lang/Character"
def TJ11 : u_T := fun k => match k with
  | _ => ("", "", "", false)
def tyJ11 : Nat → FieldType := fun k => match k with
  | _ => .int
abbrev wsJ110 : List Cond := u_ws RJ11 TJ11 0
theorem nmJ11 : ∀ a, a < 0 → ∀ b, b < 0 → a ≠ b → (TJ11 a).2.1 ≠ (TJ11 b).2.1 := by decide +kernel
theorem tyJ11_ok : ∀ k, k < 0 → parseFieldDescriptor (TJ11 k).2.2.1 = some (tyJ11 k) := by decide +kernel
abbrev cJ11_isValidCodePoint_9a6ad : ByteArray := prog_9_method_11_code
def yJ11_isValidCodePoint_9a6ad : MethodName := ⟨RJ11, "isValidCodePoint", "(I)Z"⟩
abbrev cJ11_highSurrogate_5068e : ByteArray := prog_9_method_28_code
def yJ11_highSurrogate_5068e : MethodName := ⟨RJ11, "highSurrogate", "(I)C"⟩
abbrev cJ11_lowSurrogate_5068e : ByteArray := prog_9_method_29_code
def yJ11_lowSurrogate_5068e : MethodName := ⟨RJ11, "lowSurrogate", "(I)C"⟩
def RJ6 : String := "java/lang/Integer"
def TJ6 : u_T := fun k => match k with
  | _ => ("", "", "", false)
def tyJ6 : Nat → FieldType := fun k => match k with
  | _ => .int
abbrev wsJ60 : List Cond := u_ws RJ6 TJ6 0
theorem nmJ6 : ∀ a, a < 0 → ∀ b, b < 0 → a ≠ b → (TJ6 a).2.1 ≠ (TJ6 b).2.1 := by decide +kernel
theorem tyJ6_ok : ∀ k, k < 0 → parseFieldDescriptor (TJ6 k).2.2.1 = some (tyJ6 k) := by decide +kernel
abbrev cJ6_bitCount_0f7a4 : ByteArray := prog_10_method_49_code
def yJ6_bitCount_0f7a4 : MethodName := ⟨RJ6, "bitCount", "(I)I"⟩
def RJ9 : String := "java/lang/Math"
def TJ9 : u_T := fun k => match k with
  | _ => ("", "", "", false)
def tyJ9 : Nat → FieldType := fun k => match k with
  | _ => .int
abbrev wsJ90 : List Cond := u_ws RJ9 TJ9 0
theorem nmJ9 : ∀ a, a < 0 → ∀ b, b < 0 → a ≠ b → (TJ9 a).2.1 ≠ (TJ9 b).2.1 := by decide +kernel
theorem tyJ9_ok : ∀ k, k < 0 → parseFieldDescriptor (TJ9 k).2.2.1 = some (tyJ9 k) := by decide +kernel
abbrev cJ9_max_7cf53 : ByteArray := prog_11_method_65_code
def yJ9_max_7cf53 : MethodName := ⟨RJ9, "max", "(II)I"⟩
abbrev cJ9_min_7cf53 : ByteArray := prog_11_method_69_code
def yJ9_min_7cf53 : MethodName := ⟨RJ9, "min", "(II)I"⟩
def RJ0 : String := "java/lang/String"
def TJ0 : u_T := fun k => match k with
  | _ => ("", "", "", false)
def tyJ0 : Nat → FieldType := fun k => match k with
  | _ => .int
abbrev wsJ00 : List Cond := u_ws RJ0 TJ0 0
theorem nmJ0 : ∀ a, a < 0 → ∀ b, b < 0 → a ≠ b → (TJ0 a).2.1 ≠ (TJ0 b).2.1 := by decide +kernel
theorem tyJ0_ok : ∀ k, k < 0 → parseFieldDescriptor (TJ0 k).2.2.1 = some (tyJ0 k) := by decide +kernel
abbrev cJ0_length_8abf5 : ByteArray := prog_12_method_54_code
def yJ0_length_8abf5 : MethodName := ⟨RJ0, "length", "()I"⟩
abbrev cJ0_indexOf_0f7a4 : ByteArray := prog_12_method_79_code
def yJ0_indexOf_0f7a4 : MethodName := ⟨RJ0, "indexOf", "(I)I"⟩
abbrev cJ0_indexOf_7cf53 : ByteArray := prog_12_method_80_code
def yJ0_indexOf_7cf53 : MethodName := ⟨RJ0, "indexOf", "(II)I"⟩
abbrev cJ0_coder_7d493 : ByteArray := prog_12_method_152_code
def yJ0_coder_7d493 : MethodName := ⟨RJ0, "coder", "()B"⟩
abbrev cJ0_isLatin1_aae02 : ByteArray := prog_12_method_154_code
def yJ0_isLatin1_aae02 : MethodName := ⟨RJ0, "isLatin1", "()Z"⟩
abbrev cJ0_checkBoundsBeginEnd_23922 : ByteArray := prog_12_method_158_code
def yJ0_checkBoundsBeginEnd_23922 : MethodName := ⟨RJ0, "checkBoundsBeginEnd", "(III)V"⟩
def RJ1 : String := "java/lang/StringLatin1"
def TJ1 : u_T := fun k => match k with
  | _ => ("", "", "", false)
def tyJ1 : Nat → FieldType := fun k => match k with
  | _ => .int
abbrev wsJ10 : List Cond := u_ws RJ1 TJ1 0
theorem nmJ1 : ∀ a, a < 0 → ∀ b, b < 0 → a ≠ b → (TJ1 a).2.1 ≠ (TJ1 b).2.1 := by decide +kernel
theorem tyJ1_ok : ∀ k, k < 0 → parseFieldDescriptor (TJ1 k).2.2.1 = some (tyJ1 k) := by decide +kernel
abbrev cJ1_canEncode_9a6ad : ByteArray := prog_13_method_4_code
def yJ1_canEncode_9a6ad : MethodName := ⟨RJ1, "canEncode", "(I)Z"⟩
abbrev cJ1_indexOf_4cfef : ByteArray := prog_13_method_22_code
def yJ1_indexOf_4cfef : MethodName := ⟨RJ1, "indexOf", "([BIII)I"⟩
abbrev cJ1_indexOfChar_4cfef : ByteArray := prog_13_method_23_code
def yJ1_indexOfChar_4cfef : MethodName := ⟨RJ1, "indexOfChar", "([BIII)I"⟩
def RJ2 : String := "java/lang/StringUTF16"
def TJ2 : u_T := fun k => match k with
  | _ => ("", "", "", false)
def tyJ2 : Nat → FieldType := fun k => match k with
  | _ => .int
abbrev wsJ20 : List Cond := u_ws RJ2 TJ2 0
theorem nmJ2 : ∀ a, a < 0 → ∀ b, b < 0 → a ≠ b → (TJ2 a).2.1 ≠ (TJ2 b).2.1 := by decide +kernel
theorem tyJ2_ok : ∀ k, k < 0 → parseFieldDescriptor (TJ2 k).2.2.1 = some (tyJ2 k) := by decide +kernel
abbrev cJ2_getChar_3b067 : ByteArray := prog_14_method_5_code
def yJ2_getChar_3b067 : MethodName := ⟨RJ2, "getChar", "([BI)C"⟩
abbrev cJ2_length_9d52b : ByteArray := prog_14_method_6_code
def yJ2_length_9d52b : MethodName := ⟨RJ2, "length", "([B)I"⟩
abbrev cJ2_indexOf_4cfef : ByteArray := prog_14_method_40_code
def yJ2_indexOf_4cfef : MethodName := ⟨RJ2, "indexOf", "([BIII)I"⟩
abbrev cJ2_indexOfChar_4cfef : ByteArray := prog_14_method_47_code
def yJ2_indexOfChar_4cfef : MethodName := ⟨RJ2, "indexOfChar", "([BIII)I"⟩
abbrev cJ2_indexOfCharUnsafe_4cfef : ByteArray := prog_14_method_48_code
def yJ2_indexOfCharUnsafe_4cfef : MethodName := ⟨RJ2, "indexOfCharUnsafe", "([BIII)I"⟩
abbrev cJ2_indexOfSupplementary_4cfef : ByteArray := prog_14_method_49_code
def yJ2_indexOfSupplementary_4cfef : MethodName := ⟨RJ2, "indexOfSupplementary", "([BIII)I"⟩
abbrev cJ2_checkBoundsBeginEnd_d044e : ByteArray := prog_14_method_93_code
def yJ2_checkBoundsBeginEnd_d044e : MethodName := ⟨RJ2, "checkBoundsBeginEnd", "(II[B)V"⟩
def RJ10 : String := "java/lang/System"
def TJ10 : u_T := fun k => match k with
  | _ => ("", "", "", false)
def tyJ10 : Nat → FieldType := fun k => match k with
  | _ => .int
abbrev wsJ100 : List Cond := u_ws RJ10 TJ10 0
theorem nmJ10 : ∀ a, a < 0 → ∀ b, b < 0 → a ≠ b → (TJ10 a).2.1 ≠ (TJ10 b).2.1 := by decide +kernel
theorem tyJ10_ok : ∀ k, k < 0 → parseFieldDescriptor (TJ10 k).2.2.1 = some (tyJ10 k) := by decide +kernel
def RJ7 : String := "java/util/Arrays"
def TJ7 : u_T := fun k => match k with
  | _ => ("", "", "", false)
def tyJ7 : Nat → FieldType := fun k => match k with
  | _ => .int
abbrev wsJ70 : List Cond := u_ws RJ7 TJ7 0
theorem nmJ7 : ∀ a, a < 0 → ∀ b, b < 0 → a ≠ b → (TJ7 a).2.1 ≠ (TJ7 b).2.1 := by decide +kernel
theorem tyJ7_ok : ∀ k, k < 0 → parseFieldDescriptor (TJ7 k).2.2.1 = some (tyJ7 k) := by decide +kernel
abbrev cJ7_fill_53178 : ByteArray := prog_16_method_103_code
def yJ7_fill_53178 : MethodName := ⟨RJ7, "fill", "([II)V"⟩
def RJ3 : String := "jdk/internal/util/Preconditions"
def TJ3 : u_T := fun k => match k with
  | _ => ("", "", "", false)
def tyJ3 : Nat → FieldType := fun k => match k with
  | _ => .int
abbrev wsJ30 : List Cond := u_ws RJ3 TJ3 0
theorem nmJ3 : ∀ a, a < 0 → ∀ b, b < 0 → a ≠ b → (TJ3 a).2.1 ≠ (TJ3 b).2.1 := by decide +kernel
theorem tyJ3_ok : ∀ k, k < 0 → parseFieldDescriptor (TJ3 k).2.2.1 = some (tyJ3 k) := by decide +kernel
abbrev cJ3_checkFromToIndex_8c36e : ByteArray := prog_17_method_12_code
def yJ3_checkFromToIndex_8c36e : MethodName := ⟨RJ3, "checkFromToIndex", "(IIILjava/util/function/BiFunction;)I"⟩
def RL : String := "PeerCircleLaw"
abbrev cL_law : ByteArray := code
def yL_law : MethodName := ⟨RL, "law", "([I)Z"⟩
abbrev vwCl : List vw_C := [(RX0, TX0, 8), (RX1, TX1, 7), (RX2, TX2, 3), (RX3, TX3, 2), (RX4, TX4, 4), (RX5, TX5, 9), (RX6, TX6, 29)]
end
section
/-! OUR OWN ROWS: one judgement vv_, in which world, locals and frame are carried along; a row an instruction -/
def vv_ (p : Program) (l : Launch) (e : Env) (R : Room) (s : State) (m : MethodId) (args : Array Value) (below : List Frame) (meth : Method) (c : Code) (D : va_G) (A : Nat → Prop) (nL : Nat) (Q : State → Prop) (n k : Nat) (w : va_W) (lv : List (Nat × Value)) (pc : Nat) (st : List Value) : Prop :=
  ∀ (H : Heap) (locs : List Loc) (ls : Array Slot), va_P D vwCl w H → va_D A w → va_S A s.heap H locs → lv_has ls nL lv → W p l e R s m args below meth c H locs n k Q (F0 m pc ls st)
def vv_X (p : Program) (s : State) (m : MethodId) (args : Array Value) (meth : Method) (c : Code) (D : va_G) (tys : List (ClassId × FieldType)) (A : Nat → Prop) (nL : Nat) (cc : ByteArray) (own : String) (Ts : List Cond) : Prop :=
  CallFix p m c cc nL s args Ts own ∧ va_K D vwCl tys s ∧ (∀ q : Nat, s.heap.size ≤ q → A q)
section VVA
variable {p : Program} {l : Launch} {e : Env} {R : Room} {s : State} {m : MethodId} {args : Array Value} {below : List Frame} {meth : Method} {c : Code} {D : va_G} {tys : List (ClassId × FieldType)} {A : Nat → Prop} {nL : Nat} {Q : State → Prop} {n k : Nat} {w : va_W} {lv : List (Nat × Value)} {pc : Nat} {st : List Value}
variable {cc : ByteArray} {own : String} {Ts : List Cond}
theorem vv_lv {lv' : List (Nat × Value)} (ks : List Nat) (hl : lv_pick lv ks = lv') (h : vv_ p l e R s m args below meth c D A nL Q n k w lv' pc st) : vv_ p l e R s m args below meth c D A nL Q n k w lv pc st := fun H locs ls hP hD hS hL => h H locs ls hP hD hS (lv_sub hL ks hl)
theorem vv_w {w' : va_W} (hw : w = w') (h : vv_ p l e R s m args below meth c D A nL Q n k w' lv pc st) : vv_ p l e R s m args below meth c D A nL Q n k w lv pc st := by
  subst hw
  exact h
theorem vv_st {st' : List Value} (hs : st = st') (h : vv_ p l e R s m args below meth c D A nL Q n k w lv pc st') : vv_ p l e R s m args below meth c D A nL Q n k w lv pc st := by
  subst hs
  exact h
theorem vv_wide {n' k' : Nat} (hn : n ≤ n') (hk : k ≤ k') (h : vv_ p l e R s m args below meth c D A nL Q n' k' w lv pc st) : vv_ p l e R s m args below meth c D A nL Q n k w lv pc st := fun H locs ls hP hD hS hL => W.widen hn hk (h H locs ls hP hD hS hL)
theorem vv_iconst (C : vv_X p s m args meth c D tys A nL cc own Ts) {i : Int} {v : Int32} (hd : decode cc pc = .ok (.iconst i, 1)) (hv : Int32.ofInt i = v) (h : vv_ p l e R s m args below meth c D A nL Q n k w lv (pc + 1) (.int v :: st)) : vv_ p l e R s m args below meth c D A nL Q n k w lv pc st := fun H locs ls hP hD hS hL => lv_iconst C.1.1 C.1.2.1 hd hv (h H locs ls hP hD hS hL)
theorem vv_bipush (C : vv_X p s m args meth c D tys A nL cc own Ts) {i : Int} {v : Int32} (hd : decode cc pc = .ok (.bipush i, 2)) (hv : (Int8.ofInt i).toInt32 = v) (h : vv_ p l e R s m args below meth c D A nL Q n k w lv (pc + 2) (.int v :: st)) : vv_ p l e R s m args below meth c D A nL Q n k w lv pc st := fun H locs ls hP hD hS hL => lv_bipush C.1.1 C.1.2.1 hd hv (h H locs ls hP hD hS hL)
theorem vv_sipush (C : vv_X p s m args meth c D tys A nL cc own Ts) {i : Int} {v : Int32} (hd : decode cc pc = .ok (.sipush i, 3)) (hv : (Int16.ofInt i).toInt32 = v) (h : vv_ p l e R s m args below meth c D A nL Q n k w lv (pc + 3) (.int v :: st)) : vv_ p l e R s m args below meth c D A nL Q n k w lv pc st := fun H locs ls hP hD hS hL => lv_sipush C.1.1 C.1.2.1 hd hv (h H locs ls hP hD hS hL)
theorem vv_iload_n (C : vv_X p s m args meth c D tys A nL cc own Ts) {i : Fin 4} {x : Int32} (hd : decode cc pc = .ok (.iload_n i, 1)) (q : Nat) (hl : lv[q]? = some ((i : Nat), .int x)) (h : vv_ p l e R s m args below meth c D A nL Q n k w lv (pc + 1) (.int x :: st)) : vv_ p l e R s m args below meth c D A nL Q n k w lv pc st := fun H locs ls hP hD hS hL => lv_iload_n C.1.1 C.1.2.1 hd rfl (lv_at hL q hl) (h H locs ls hP hD hS hL)
theorem vv_iload (C : vv_X p s m args meth c D tys A nL cc own Ts) {i : Nat} {x : Int32} (hd : decode cc pc = .ok (.iload i, 2)) (q : Nat) (hl : lv[q]? = some (i, .int x)) (h : vv_ p l e R s m args below meth c D A nL Q n k w lv (pc + 2) (.int x :: st)) : vv_ p l e R s m args below meth c D A nL Q n k w lv pc st := fun H locs ls hP hD hS hL => lv_iload C.1.1 C.1.2.1 hd (lv_at hL q hl) (h H locs ls hP hD hS hL)
theorem vv_aload_n (C : vv_X p s m args meth c D tys A nL cc own Ts) {i : Fin 4} {x : Nat} (hd : decode cc pc = .ok (.aload_n i, 1)) (q : Nat) (hl : lv[q]? = some ((i : Nat), .ref x)) (h : vv_ p l e R s m args below meth c D A nL Q n k w lv (pc + 1) (.ref x :: st)) : vv_ p l e R s m args below meth c D A nL Q n k w lv pc st := fun H locs ls hP hD hS hL => lv_aload_n C.1.1 C.1.2.1 hd rfl (lv_at hL q hl) (h H locs ls hP hD hS hL)
theorem vv_aload (C : vv_X p s m args meth c D tys A nL cc own Ts) {i : Nat} {x : Nat} (hd : decode cc pc = .ok (.aload i, 2)) (q : Nat) (hl : lv[q]? = some (i, .ref x)) (h : vv_ p l e R s m args below meth c D A nL Q n k w lv (pc + 2) (.ref x :: st)) : vv_ p l e R s m args below meth c D A nL Q n k w lv pc st := fun H locs ls hP hD hS hL => lv_aload C.1.1 C.1.2.1 hd (lv_at hL q hl) (h H locs ls hP hD hS hL)
theorem vv_aload_nN (C : vv_X p s m args meth c D tys A nL cc own Ts) {i : Fin 4} (hd : decode cc pc = .ok (.aload_n i, 1)) (q : Nat) (hl : lv[q]? = some ((i : Nat), .null)) (h : vv_ p l e R s m args below meth c D A nL Q n k w lv (pc + 1) (.null :: st)) : vv_ p l e R s m args below meth c D A nL Q n k w lv pc st := fun H locs ls hP hD hS hL => lv_aload_nN C.1.1 C.1.2.1 hd rfl (lv_at hL q hl) (h H locs ls hP hD hS hL)
theorem vv_aloadN (C : vv_X p s m args meth c D tys A nL cc own Ts) {i : Nat} (hd : decode cc pc = .ok (.aload i, 2)) (q : Nat) (hl : lv[q]? = some (i, .null)) (h : vv_ p l e R s m args below meth c D A nL Q n k w lv (pc + 2) (.null :: st)) : vv_ p l e R s m args below meth c D A nL Q n k w lv pc st := fun H locs ls hP hD hS hL => lv_aloadN C.1.1 C.1.2.1 hd (lv_at hL q hl) (h H locs ls hP hD hS hL)
theorem vv_istore_n (C : vv_X p s m args meth c D tys A nL cc own Ts) {i : Fin 4} {x : Int32} {lv' : List (Nat × Value)} (hd : decode cc pc = .ok (.istore_n i, 1)) (hn : (i : Nat) < nL) (hl : ((i : Nat), Value.int x) :: lv.filter (fun q => !(q.1 == (i : Nat)) && !(q.1 + 1 == (i : Nat) && q.2.category == 2)) = lv') (h : vv_ p l e R s m args below meth c D A nL Q n k w lv' (pc + 1) st) : vv_ p l e R s m args below meth c D A nL Q n k w lv pc (.int x :: st) := fun H locs ls hP hD hS hL => lv_istore_n C.1.1 C.1.2.1 hd rfl hL hn hl (fun ls' hL' => h H locs ls' hP hD hS hL')
theorem vv_istore (C : vv_X p s m args meth c D tys A nL cc own Ts) {i : Nat} {x : Int32} {lv' : List (Nat × Value)} (hd : decode cc pc = .ok (.istore i, 2)) (hn : i < nL) (hl : (i, Value.int x) :: lv.filter (fun q => !(q.1 == i) && !(q.1 + 1 == i && q.2.category == 2)) = lv') (h : vv_ p l e R s m args below meth c D A nL Q n k w lv' (pc + 2) st) : vv_ p l e R s m args below meth c D A nL Q n k w lv pc (.int x :: st) := fun H locs ls hP hD hS hL => lv_istore C.1.1 C.1.2.1 hd hL hn hl (fun ls' hL' => h H locs ls' hP hD hS hL')
theorem vv_astore_n (C : vv_X p s m args meth c D tys A nL cc own Ts) {i : Fin 4} {x : Nat} {lv' : List (Nat × Value)} (hd : decode cc pc = .ok (.astore_n i, 1)) (hn : (i : Nat) < nL) (hl : ((i : Nat), Value.ref x) :: lv.filter (fun q => !(q.1 == (i : Nat)) && !(q.1 + 1 == (i : Nat) && q.2.category == 2)) = lv') (h : vv_ p l e R s m args below meth c D A nL Q n k w lv' (pc + 1) st) : vv_ p l e R s m args below meth c D A nL Q n k w lv pc (.ref x :: st) := fun H locs ls hP hD hS hL => lv_astore_n C.1.1 C.1.2.1 hd rfl hL hn hl (fun ls' hL' => h H locs ls' hP hD hS hL')
theorem vv_astore (C : vv_X p s m args meth c D tys A nL cc own Ts) {i : Nat} {x : Nat} {lv' : List (Nat × Value)} (hd : decode cc pc = .ok (.astore i, 2)) (hn : i < nL) (hl : (i, Value.ref x) :: lv.filter (fun q => !(q.1 == i) && !(q.1 + 1 == i && q.2.category == 2)) = lv') (h : vv_ p l e R s m args below meth c D A nL Q n k w lv' (pc + 2) st) : vv_ p l e R s m args below meth c D A nL Q n k w lv pc (.ref x :: st) := fun H locs ls hP hD hS hL => lv_astore C.1.1 C.1.2.1 hd hL hn hl (fun ls' hL' => h H locs ls' hP hD hS hL')
theorem vv_astore_nN (C : vv_X p s m args meth c D tys A nL cc own Ts) {i : Fin 4} {lv' : List (Nat × Value)} (hd : decode cc pc = .ok (.astore_n i, 1)) (hn : (i : Nat) < nL) (hl : ((i : Nat), Value.null) :: lv.filter (fun q => !(q.1 == (i : Nat)) && !(q.1 + 1 == (i : Nat) && q.2.category == 2)) = lv') (h : vv_ p l e R s m args below meth c D A nL Q n k w lv' (pc + 1) st) : vv_ p l e R s m args below meth c D A nL Q n k w lv pc (.null :: st) := fun H locs ls hP hD hS hL => lv_astore_nN C.1.1 C.1.2.1 hd rfl hL hn hl (fun ls' hL' => h H locs ls' hP hD hS hL')
theorem vv_astoreN (C : vv_X p s m args meth c D tys A nL cc own Ts) {i : Nat} {lv' : List (Nat × Value)} (hd : decode cc pc = .ok (.astore i, 2)) (hn : i < nL) (hl : (i, Value.null) :: lv.filter (fun q => !(q.1 == i) && !(q.1 + 1 == i && q.2.category == 2)) = lv') (h : vv_ p l e R s m args below meth c D A nL Q n k w lv' (pc + 2) st) : vv_ p l e R s m args below meth c D A nL Q n k w lv pc (.null :: st) := fun H locs ls hP hD hS hL => lv_astoreN C.1.1 C.1.2.1 hd hL hn hl (fun ls' hL' => h H locs ls' hP hD hS hL')
theorem vv_iinc (C : vv_X p s m args meth c D tys A nL cc own Ts) {i q : Nat} {d : Int} {x v : Int32} {lv' : List (Nat × Value)} (hd : decode cc pc = .ok (.iinc i d, 3)) (hk : lv[q]? = some (i, .int x)) (hv : x + Int32.ofInt d = v) (hn : i < nL) (hl : (i, Value.int v) :: lv.filter (fun q => !(q.1 == i) && !(q.1 + 1 == i && q.2.category == 2)) = lv') (h : vv_ p l e R s m args below meth c D A nL Q n k w lv' (pc + 3) st) : vv_ p l e R s m args below meth c D A nL Q n k w lv pc st := fun H locs ls hP hD hS hL => lv_iinc C.1.1 C.1.2.1 hd hL hk hv hn hl (fun ls' hL' => h H locs ls' hP hD hS hL')
theorem vv_iadd (C : vv_X p s m args meth c D tys A nL cc own Ts) {x y : Int32} (hd : decode cc pc = .ok (.iadd, 1)) (h : vv_ p l e R s m args below meth c D A nL Q n k w lv (pc + 1) (.int (x + y) :: st)) : vv_ p l e R s m args below meth c D A nL Q n k w lv pc (.int y :: .int x :: st) := fun H locs ls hP hD hS hL => lv_iadd C.1.1 C.1.2.1 hd (h H locs ls hP hD hS hL)
theorem vv_isub (C : vv_X p s m args meth c D tys A nL cc own Ts) {x y : Int32} (hd : decode cc pc = .ok (.isub, 1)) (h : vv_ p l e R s m args below meth c D A nL Q n k w lv (pc + 1) (.int (x - y) :: st)) : vv_ p l e R s m args below meth c D A nL Q n k w lv pc (.int y :: .int x :: st) := fun H locs ls hP hD hS hL => lv_isub C.1.1 C.1.2.1 hd (h H locs ls hP hD hS hL)
theorem vv_imul (C : vv_X p s m args meth c D tys A nL cc own Ts) {x y : Int32} (hd : decode cc pc = .ok (.imul, 1)) (h : vv_ p l e R s m args below meth c D A nL Q n k w lv (pc + 1) (.int (x * y) :: st)) : vv_ p l e R s m args below meth c D A nL Q n k w lv pc (.int y :: .int x :: st) := fun H locs ls hP hD hS hL => lv_imul C.1.1 C.1.2.1 hd (h H locs ls hP hD hS hL)
theorem vv_iand (C : vv_X p s m args meth c D tys A nL cc own Ts) {x y : Int32} (hd : decode cc pc = .ok (.iand, 1)) (h : vv_ p l e R s m args below meth c D A nL Q n k w lv (pc + 1) (.int (x &&& y) :: st)) : vv_ p l e R s m args below meth c D A nL Q n k w lv pc (.int y :: .int x :: st) := fun H locs ls hP hD hS hL => lv_iand C.1.1 C.1.2.1 hd (h H locs ls hP hD hS hL)
theorem vv_ior (C : vv_X p s m args meth c D tys A nL cc own Ts) {x y : Int32} (hd : decode cc pc = .ok (.ior, 1)) (h : vv_ p l e R s m args below meth c D A nL Q n k w lv (pc + 1) (.int (x ||| y) :: st)) : vv_ p l e R s m args below meth c D A nL Q n k w lv pc (.int y :: .int x :: st) := fun H locs ls hP hD hS hL => lv_ior C.1.1 C.1.2.1 hd (h H locs ls hP hD hS hL)
theorem vv_ixor (C : vv_X p s m args meth c D tys A nL cc own Ts) {x y : Int32} (hd : decode cc pc = .ok (.ixor, 1)) (h : vv_ p l e R s m args below meth c D A nL Q n k w lv (pc + 1) (.int (x ^^^ y) :: st)) : vv_ p l e R s m args below meth c D A nL Q n k w lv pc (.int y :: .int x :: st) := fun H locs ls hP hD hS hL => lv_ixor C.1.1 C.1.2.1 hd (h H locs ls hP hD hS hL)
theorem vv_idiv (C : vv_X p s m args meth c D tys A nL cc own Ts) {x y : Int32} (hd : decode cc pc = .ok (.idiv, 1)) (hne : ¬ y = 0) (h : vv_ p l e R s m args below meth c D A nL Q n k w lv (pc + 1) (.int (x / y) :: st)) : vv_ p l e R s m args below meth c D A nL Q n k w lv pc (.int y :: .int x :: st) := fun H locs ls hP hD hS hL => lv_idiv C.1.1 C.1.2.1 hd hne (h H locs ls hP hD hS hL)
theorem vv_irem (C : vv_X p s m args meth c D tys A nL cc own Ts) {x y : Int32} (hd : decode cc pc = .ok (.irem, 1)) (hne : ¬ y = 0) (h : vv_ p l e R s m args below meth c D A nL Q n k w lv (pc + 1) (.int (x - x / y * y) :: st)) : vv_ p l e R s m args below meth c D A nL Q n k w lv pc (.int y :: .int x :: st) := fun H locs ls hP hD hS hL => lv_irem C.1.1 C.1.2.1 hd hne (h H locs ls hP hD hS hL)
theorem vv_ineg (C : vv_X p s m args meth c D tys A nL cc own Ts) {x : Int32} (hd : decode cc pc = .ok (.ineg, 1)) (h : vv_ p l e R s m args below meth c D A nL Q n k w lv (pc + 1) (.int (-x) :: st)) : vv_ p l e R s m args below meth c D A nL Q n k w lv pc (.int x :: st) := fun H locs ls hP hD hS hL => lv_ineg C.1.1 C.1.2.1 hd (h H locs ls hP hD hS hL)
theorem vv_ishl (C : vv_X p s m args meth c D tys A nL cc own Ts) {x y : Int32} (hd : decode cc pc = .ok (.ishl, 1)) (h : vv_ p l e R s m args below meth c D A nL Q n k w lv (pc + 1) (.int (x <<< (y &&& 31)) :: st)) : vv_ p l e R s m args below meth c D A nL Q n k w lv pc (.int y :: .int x :: st) := fun H locs ls hP hD hS hL => lv_ishl C.1.1 C.1.2.1 hd (h H locs ls hP hD hS hL)
theorem vv_ishr (C : vv_X p s m args meth c D tys A nL cc own Ts) {x y : Int32} (hd : decode cc pc = .ok (.ishr, 1)) (h : vv_ p l e R s m args below meth c D A nL Q n k w lv (pc + 1) (.int (x >>> (y &&& 31)) :: st)) : vv_ p l e R s m args below meth c D A nL Q n k w lv pc (.int y :: .int x :: st) := fun H locs ls hP hD hS hL => lv_ishr C.1.1 C.1.2.1 hd (h H locs ls hP hD hS hL)
def ushr_ (x y : Int32) : Int32 := (x.toUInt32 >>> (y.toUInt32 &&& Int32.toUInt32 31)).toInt32
theorem vv_iushr (C : vv_X p s m args meth c D tys A nL cc own Ts) {x y : Int32} (hd : decode cc pc = .ok (.iushr, 1)) (h : vv_ p l e R s m args below meth c D A nL Q n k w lv (pc + 1) (.int (ushr_ x y) :: st)) : vv_ p l e R s m args below meth c D A nL Q n k w lv pc (.int y :: .int x :: st) := fun H locs ls hP hD hS hL => lv_iushr C.1.1 C.1.2.1 hd rfl (h H locs ls hP hD hS hL)
def i2c_ (x : Int32) : Int32 := (x.toUInt32 % 65536).toInt32
theorem vv_i2c (C : vv_X p s m args meth c D tys A nL cc own Ts) {x : Int32} (hd : decode cc pc = .ok (.i2c, 1)) (h : vv_ p l e R s m args below meth c D A nL Q n k w lv (pc + 1) (.int (i2c_ x) :: st)) : vv_ p l e R s m args below meth c D A nL Q n k w lv pc (.int x :: st) := fun H locs ls hP hD hS hL => lv_i2c C.1.1 C.1.2.1 hd rfl (h H locs ls hP hD hS hL)
def i2b_ (x : Int32) : Int32 := x.toInt8.toInt32
theorem vv_i2b (C : vv_X p s m args meth c D tys A nL cc own Ts) {x : Int32} (hd : decode cc pc = .ok (.i2b, 1)) (h : vv_ p l e R s m args below meth c D A nL Q n k w lv (pc + 1) (.int (i2b_ x) :: st)) : vv_ p l e R s m args below meth c D A nL Q n k w lv pc (.int x :: st) := fun H locs ls hP hD hS hL => lv_i2b C.1.1 C.1.2.1 hd rfl (h H locs ls hP hD hS hL)
theorem vv_dup (C : vv_X p s m args meth c D tys A nL cc own Ts) {v : Value} (hd : decode cc pc = .ok (.dup, 1)) (hv : v.category = 1) (h : vv_ p l e R s m args below meth c D A nL Q n k w lv (pc + 1) (v :: v :: st)) : vv_ p l e R s m args below meth c D A nL Q n k w lv pc (v :: st) := fun H locs ls hP hD hS hL => lv_dup C.1.1 C.1.2.1 hd hv (h H locs ls hP hD hS hL)
theorem vv_dup2 (C : vv_X p s m args meth c D tys A nL cc own Ts) {v u : Value} (hd : decode cc pc = .ok (.dup2, 1)) (hv : v.category = 1) (hu : u.category = 1) (h : vv_ p l e R s m args below meth c D A nL Q n k w lv (pc + 1) (v :: u :: v :: u :: st)) : vv_ p l e R s m args below meth c D A nL Q n k w lv pc (v :: u :: st) := fun H locs ls hP hD hS hL => lv_dup2_11 C.1.1 C.1.2.1 hd hv hu (h H locs ls hP hD hS hL)
theorem vv_goto (C : vv_X p s m args meth c D tys A nL cc own Ts) {off : Int} {tgt : Nat} (hd : decode cc pc = .ok (.goto off, 3)) (ht : (pc : Int) + off = (tgt : Int)) (h : vv_ p l e R s m args below meth c D A nL Q n k w lv tgt st) : vv_ p l e R s m args below meth c D A nL Q n k w lv pc st := fun H locs ls hP hD hS hL => lv_goto C.1.1 C.1.2.1 hd ht (h H locs ls hP hD hS hL)
theorem vv_if_eq {α : Type} {FA FB : Option α} {res : α} (C : vv_X p s m args meth c D tys A nL cc own Ts) {x : Int32} {off : Int} {tgt : Nat} (hd : decode cc pc = .ok (.ifCond .eq off, 3)) (ht : (pc : Int) + off = (tgt : Int)) (hF : (if x = 0 then FA else FB) = some res) (kt : x = 0 → FA = some res → vv_ p l e R s m args below meth c D A nL Q n k w lv tgt st) (kf : ¬ x = 0 → FB = some res → vv_ p l e R s m args below meth c D A nL Q n k w lv (pc + 3) st) : vv_ p l e R s m args below meth c D A nL Q n k w lv pc (.int x :: st) := fun H locs ls hP hD hS hL => lv_if_eq C.1.1 C.1.2.1 hd ht (fun q => kt q (by rw [if_pos q] at hF; exact hF) H locs ls hP hD hS hL) (fun q => kf q (by rw [if_neg q] at hF; exact hF) H locs ls hP hD hS hL)
theorem vv_if_ne {α : Type} {FA FB : Option α} {res : α} (C : vv_X p s m args meth c D tys A nL cc own Ts) {x : Int32} {off : Int} {tgt : Nat} (hd : decode cc pc = .ok (.ifCond .ne off, 3)) (ht : (pc : Int) + off = (tgt : Int)) (hF : (if x = 0 then FB else FA) = some res) (kt : ¬ x = 0 → FA = some res → vv_ p l e R s m args below meth c D A nL Q n k w lv tgt st) (kf : x = 0 → FB = some res → vv_ p l e R s m args below meth c D A nL Q n k w lv (pc + 3) st) : vv_ p l e R s m args below meth c D A nL Q n k w lv pc (.int x :: st) := fun H locs ls hP hD hS hL => lv_if_ne C.1.1 C.1.2.1 hd ht (fun q => kt q (by rw [if_neg q] at hF; exact hF) H locs ls hP hD hS hL) (fun q => kf q (by rw [if_pos q] at hF; exact hF) H locs ls hP hD hS hL)
theorem vv_icmp_eq {α : Type} {FA FB : Option α} {res : α} (C : vv_X p s m args meth c D tys A nL cc own Ts) {x y : Int32} {off : Int} {tgt : Nat} (hd : decode cc pc = .ok (.if_icmp .eq off, 3)) (ht : (pc : Int) + off = (tgt : Int)) (hF : (if x = y then FA else FB) = some res) (kt : x = y → FA = some res → vv_ p l e R s m args below meth c D A nL Q n k w lv tgt st) (kf : ¬ x = y → FB = some res → vv_ p l e R s m args below meth c D A nL Q n k w lv (pc + 3) st) : vv_ p l e R s m args below meth c D A nL Q n k w lv pc (.int y :: .int x :: st) := fun H locs ls hP hD hS hL => lv_icmp_eq C.1.1 C.1.2.1 hd ht (fun q => kt q (by rw [if_pos q] at hF; exact hF) H locs ls hP hD hS hL) (fun q => kf q (by rw [if_neg q] at hF; exact hF) H locs ls hP hD hS hL)
theorem vv_icmp_ne {α : Type} {FA FB : Option α} {res : α} (C : vv_X p s m args meth c D tys A nL cc own Ts) {x y : Int32} {off : Int} {tgt : Nat} (hd : decode cc pc = .ok (.if_icmp .ne off, 3)) (ht : (pc : Int) + off = (tgt : Int)) (hF : (if x = y then FB else FA) = some res) (kt : ¬ x = y → FA = some res → vv_ p l e R s m args below meth c D A nL Q n k w lv tgt st) (kf : x = y → FB = some res → vv_ p l e R s m args below meth c D A nL Q n k w lv (pc + 3) st) : vv_ p l e R s m args below meth c D A nL Q n k w lv pc (.int y :: .int x :: st) := fun H locs ls hP hD hS hL => lv_icmp_ne C.1.1 C.1.2.1 hd ht (fun q => kt q (by rw [if_neg q] at hF; exact hF) H locs ls hP hD hS hL) (fun q => kf q (by rw [if_pos q] at hF; exact hF) H locs ls hP hD hS hL)
theorem vv_if_lt {α : Type} {FA FB : Option α} {res : α} (C : vv_X p s m args meth c D tys A nL cc own Ts) {x : Int32} {off : Int} {tgt : Nat} (hd : decode cc pc = .ok (.ifCond .lt off, 3)) (ht : (pc : Int) + off = (tgt : Int)) (hF : (if x < 0 then FA else FB) = some res) (kt : x < 0 → FA = some res → vv_ p l e R s m args below meth c D A nL Q n k w lv tgt st) (kf : ¬ x < 0 → FB = some res → vv_ p l e R s m args below meth c D A nL Q n k w lv (pc + 3) st) : vv_ p l e R s m args below meth c D A nL Q n k w lv pc (.int x :: st) := fun H locs ls hP hD hS hL => lv_if_lt C.1.1 C.1.2.1 hd ht (fun q => kt q (by rw [if_pos q] at hF; exact hF) H locs ls hP hD hS hL) (fun q => kf q (by rw [if_neg q] at hF; exact hF) H locs ls hP hD hS hL)
theorem vv_if_ge {α : Type} {FA FB : Option α} {res : α} (C : vv_X p s m args meth c D tys A nL cc own Ts) {x : Int32} {off : Int} {tgt : Nat} (hd : decode cc pc = .ok (.ifCond .ge off, 3)) (ht : (pc : Int) + off = (tgt : Int)) (hF : (if 0 ≤ x then FA else FB) = some res) (kt : 0 ≤ x → FA = some res → vv_ p l e R s m args below meth c D A nL Q n k w lv tgt st) (kf : ¬ 0 ≤ x → FB = some res → vv_ p l e R s m args below meth c D A nL Q n k w lv (pc + 3) st) : vv_ p l e R s m args below meth c D A nL Q n k w lv pc (.int x :: st) := fun H locs ls hP hD hS hL => lv_if_ge C.1.1 C.1.2.1 hd ht (fun q => kt q (by rw [if_pos q] at hF; exact hF) H locs ls hP hD hS hL) (fun q => kf q (by rw [if_neg q] at hF; exact hF) H locs ls hP hD hS hL)
theorem vv_if_gt {α : Type} {FA FB : Option α} {res : α} (C : vv_X p s m args meth c D tys A nL cc own Ts) {x : Int32} {off : Int} {tgt : Nat} (hd : decode cc pc = .ok (.ifCond .gt off, 3)) (ht : (pc : Int) + off = (tgt : Int)) (hF : (if 0 < x then FA else FB) = some res) (kt : 0 < x → FA = some res → vv_ p l e R s m args below meth c D A nL Q n k w lv tgt st) (kf : ¬ 0 < x → FB = some res → vv_ p l e R s m args below meth c D A nL Q n k w lv (pc + 3) st) : vv_ p l e R s m args below meth c D A nL Q n k w lv pc (.int x :: st) := fun H locs ls hP hD hS hL => lv_if_gt C.1.1 C.1.2.1 hd ht (fun q => kt q (by rw [if_pos q] at hF; exact hF) H locs ls hP hD hS hL) (fun q => kf q (by rw [if_neg q] at hF; exact hF) H locs ls hP hD hS hL)
theorem vv_if_le {α : Type} {FA FB : Option α} {res : α} (C : vv_X p s m args meth c D tys A nL cc own Ts) {x : Int32} {off : Int} {tgt : Nat} (hd : decode cc pc = .ok (.ifCond .le off, 3)) (ht : (pc : Int) + off = (tgt : Int)) (hF : (if x ≤ 0 then FA else FB) = some res) (kt : x ≤ 0 → FA = some res → vv_ p l e R s m args below meth c D A nL Q n k w lv tgt st) (kf : ¬ x ≤ 0 → FB = some res → vv_ p l e R s m args below meth c D A nL Q n k w lv (pc + 3) st) : vv_ p l e R s m args below meth c D A nL Q n k w lv pc (.int x :: st) := fun H locs ls hP hD hS hL => lv_if_le C.1.1 C.1.2.1 hd ht (fun q => kt q (by rw [if_pos q] at hF; exact hF) H locs ls hP hD hS hL) (fun q => kf q (by rw [if_neg q] at hF; exact hF) H locs ls hP hD hS hL)
theorem vv_icmp_lt {α : Type} {FA FB : Option α} {res : α} (C : vv_X p s m args meth c D tys A nL cc own Ts) {x y : Int32} {off : Int} {tgt : Nat} (hd : decode cc pc = .ok (.if_icmp .lt off, 3)) (ht : (pc : Int) + off = (tgt : Int)) (hF : (if x < y then FA else FB) = some res) (kt : x < y → FA = some res → vv_ p l e R s m args below meth c D A nL Q n k w lv tgt st) (kf : ¬ x < y → FB = some res → vv_ p l e R s m args below meth c D A nL Q n k w lv (pc + 3) st) : vv_ p l e R s m args below meth c D A nL Q n k w lv pc (.int y :: .int x :: st) := fun H locs ls hP hD hS hL => lv_icmp_lt C.1.1 C.1.2.1 hd ht (fun q => kt q (by rw [if_pos q] at hF; exact hF) H locs ls hP hD hS hL) (fun q => kf q (by rw [if_neg q] at hF; exact hF) H locs ls hP hD hS hL)
theorem vv_icmp_ge {α : Type} {FA FB : Option α} {res : α} (C : vv_X p s m args meth c D tys A nL cc own Ts) {x y : Int32} {off : Int} {tgt : Nat} (hd : decode cc pc = .ok (.if_icmp .ge off, 3)) (ht : (pc : Int) + off = (tgt : Int)) (hF : (if y ≤ x then FA else FB) = some res) (kt : y ≤ x → FA = some res → vv_ p l e R s m args below meth c D A nL Q n k w lv tgt st) (kf : ¬ y ≤ x → FB = some res → vv_ p l e R s m args below meth c D A nL Q n k w lv (pc + 3) st) : vv_ p l e R s m args below meth c D A nL Q n k w lv pc (.int y :: .int x :: st) := fun H locs ls hP hD hS hL => lv_icmp_ge C.1.1 C.1.2.1 hd ht (fun q => kt q (by rw [if_pos q] at hF; exact hF) H locs ls hP hD hS hL) (fun q => kf q (by rw [if_neg q] at hF; exact hF) H locs ls hP hD hS hL)
theorem vv_icmp_gt {α : Type} {FA FB : Option α} {res : α} (C : vv_X p s m args meth c D tys A nL cc own Ts) {x y : Int32} {off : Int} {tgt : Nat} (hd : decode cc pc = .ok (.if_icmp .gt off, 3)) (ht : (pc : Int) + off = (tgt : Int)) (hF : (if y < x then FA else FB) = some res) (kt : y < x → FA = some res → vv_ p l e R s m args below meth c D A nL Q n k w lv tgt st) (kf : ¬ y < x → FB = some res → vv_ p l e R s m args below meth c D A nL Q n k w lv (pc + 3) st) : vv_ p l e R s m args below meth c D A nL Q n k w lv pc (.int y :: .int x :: st) := fun H locs ls hP hD hS hL => lv_icmp_gt C.1.1 C.1.2.1 hd ht (fun q => kt q (by rw [if_pos q] at hF; exact hF) H locs ls hP hD hS hL) (fun q => kf q (by rw [if_neg q] at hF; exact hF) H locs ls hP hD hS hL)
theorem vv_icmp_le {α : Type} {FA FB : Option α} {res : α} (C : vv_X p s m args meth c D tys A nL cc own Ts) {x y : Int32} {off : Int} {tgt : Nat} (hd : decode cc pc = .ok (.if_icmp .le off, 3)) (ht : (pc : Int) + off = (tgt : Int)) (hF : (if x ≤ y then FA else FB) = some res) (kt : x ≤ y → FA = some res → vv_ p l e R s m args below meth c D A nL Q n k w lv tgt st) (kf : ¬ x ≤ y → FB = some res → vv_ p l e R s m args below meth c D A nL Q n k w lv (pc + 3) st) : vv_ p l e R s m args below meth c D A nL Q n k w lv pc (.int y :: .int x :: st) := fun H locs ls hP hD hS hL => lv_icmp_le C.1.1 C.1.2.1 hd ht (fun q => kt q (by rw [if_pos q] at hF; exact hF) H locs ls hP hD hS hL) (fun q => kf q (by rw [if_neg q] at hF; exact hF) H locs ls hP hD hS hL)
/-- an index that is looked at: the rest, or nothing -/
def gd_ {α : Type} (i : Int32) (len : Nat) (K : Nat → Option α) : Option α := if i < 0 ∨ len ≤ i.toNatClampNeg then none else K i.toNatClampNeg
theorem gd_some {α : Type} {i : Int32} {len : Nat} {K : Nat → Option α} {res : α} (h : gd_ i len K = some res) : vp_in i len ∧ i.toNatClampNeg < len ∧ K i.toNatClampNeg = some res := by
  unfold gd_ at h
  by_cases q : i < 0 ∨ len ≤ i.toNatClampNeg
  · rw [if_pos q] at h
    cases h
  · rw [if_neg q] at h
    exact ⟨q, Nat.not_le.mp (fun z => q (Or.inr z)), h⟩
/-- a call's answer: the rest, or nothing -/
def bn_ {α β : Type} (o : Option α) (K : α → Option β) : Option β := match o with
  | none => none
  | some x => K x
theorem bn_some {α β : Type} {o : Option α} {K : α → Option β} {res : β} (h : bn_ o K = some res) : ∃ x, o = some x ∧ K x = some res := by
  cases o with
  | none => cases h
  | some x => exact ⟨x, rfl, h⟩
/-- a boolean: 0 or 1 -/
def gz_ {α : Type} (x : Int32) (K : Option α) : Option α := if x = 0 ∨ x = 1 then K else none
theorem gz_some {α : Type} {x : Int32} {K : Option α} {res : α} (h : gz_ x K = some res) : (x = 0 ∨ x = 1) ∧ K = some res := by
  unfold gz_ at h
  by_cases q : x = 0 ∨ x = 1
  · rw [if_pos q] at h
    exact ⟨q, h⟩
  · rw [if_neg q] at h
    cases h
theorem gz_nar {x : Int32} (h : x = 0 ∨ x = 1) : narrow .boolean (.int x) = .int x := by
  rcases h with rfl | rfl <;> decide +kernel
theorem gz_fit {x : Int32} (h : x = 0 ∨ x = 1) : fits .boolean (.int x) = true := by
  rcases h with rfl | rfl <;> decide +kernel
theorem vv_iald {α : Type} {K : Nat → Option α} {res : α} (C : vv_X p s m args meth c D tys A nL cc own Ts) (q t : Nat) {a : Nat} {cA : ClassId} {len : Nat} {f : Nat → Int32} (ha : w[q]? = some (a, .inl (cA, len, .inl f))) (ht : tys[t]? = some (cA, .int)) {i : Int32} (hF : gd_ i len K = some res) (hd : decode cc pc = .ok (.iaload, 1)) (h : ∀ j : Nat, j < len → K j = some res → vv_ p l e R s m args below meth c D A nL Q n k w lv (pc + 1) (.int (f j) :: st)) : vv_ p l e R s m args below meth c D A nL Q n k w lv pc (.int i :: .ref a :: st) := fun H locs ls hP hD hS hL => va_iald C.1.1 C.1.2.1 C.2.1 hP q t ha ht (gd_some hF).1 hd (h _ (gd_some hF).2.1 (gd_some hF).2.2 H locs ls hP hD hS hL)
theorem vv_bald {α : Type} {K : Nat → Option α} {res : α} (C : vv_X p s m args meth c D tys A nL cc own Ts) (q t : Nat) {a : Nat} {cA : ClassId} {len : Nat} {f : Nat → Int32} (ha : w[q]? = some (a, .inl (cA, len, .inl f))) (ht : tys[t]? = some (cA, .byte)) {i : Int32} (hF : gd_ i len K = some res) (hd : decode cc pc = .ok (.baload, 1)) (h : ∀ j : Nat, j < len → K j = some res → vv_ p l e R s m args below meth c D A nL Q n k w lv (pc + 1) (.int (f j) :: st)) : vv_ p l e R s m args below meth c D A nL Q n k w lv pc (.int i :: .ref a :: st) := fun H locs ls hP hD hS hL => va_bald C.1.1 C.1.2.1 C.2.1 hP q t ha ht (gd_some hF).1 hd (h _ (gd_some hF).2.1 (gd_some hF).2.2 H locs ls hP hD hS hL)
theorem vv_zald {α : Type} {K : Nat → Option α} {res : α} (C : vv_X p s m args meth c D tys A nL cc own Ts) (q t : Nat) {a : Nat} {cA : ClassId} {len : Nat} {f : Nat → Int32} (ha : w[q]? = some (a, .inl (cA, len, .inl f))) (ht : tys[t]? = some (cA, .boolean)) {i : Int32} (hF : gd_ i len K = some res) (hd : decode cc pc = .ok (.baload, 1)) (h : ∀ j : Nat, j < len → K j = some res → vv_ p l e R s m args below meth c D A nL Q n k w lv (pc + 1) (.int (f j) :: st)) : vv_ p l e R s m args below meth c D A nL Q n k w lv pc (.int i :: .ref a :: st) := fun H locs ls hP hD hS hL => va_zald C.1.1 C.1.2.1 C.2.1 hP q t ha ht (gd_some hF).1 hd (h _ (gd_some hF).2.1 (gd_some hF).2.2 H locs ls hP hD hS hL)
theorem vv_iast {α : Type} {K : Nat → Option α} {res : α} (C : vv_X p s m args meth c D tys A nL cc own Ts) (q t : Nat) {a : Nat} {cA : ClassId} {len : Nat} {f : Nat → Int32} (ha : w[q]? = some (a, .inl (cA, len, .inl f))) (ht : tys[t]? = some (cA, .int)) {i x : Int32} (hF : gd_ i len K = some res) (hd : decode cc pc = .ok (.iastore, 1)) {w' : Nat → va_W} (hw : ∀ j : Nat, w.set q (a, .inl (cA, len, .inl (upd f j x))) = w' j) (h : ∀ j : Nat, j < len → K j = some res → vv_ p l e R s m args below meth c D A nL Q n k (w' j) lv (pc + 1) st) : vv_ p l e R s m args below meth c D A nL Q n k w lv pc (.int x :: .int i :: .ref a :: st) := fun H locs ls hP hD hS hL => va_iast C.1.1 C.1.2.1 C.2.1 hP hD hS q t ha ht (gd_some hF).1 hd (fun H1 locs1 hP1 hD1 hS1 => h _ (gd_some hF).2.1 (gd_some hF).2.2 H1 locs1 ls (by rw [hw] at hP1; exact hP1) (by rw [hw] at hD1; exact hD1) hS1 hL)
theorem vv_bast {α : Type} {K : Nat → Option α} {res : α} (C : vv_X p s m args meth c D tys A nL cc own Ts) (q t : Nat) {a : Nat} {cA : ClassId} {len : Nat} {f : Nat → Int32} (ha : w[q]? = some (a, .inl (cA, len, .inl f))) (ht : tys[t]? = some (cA, .byte)) {i x : Int32} (hF : gd_ i len K = some res) (hd : decode cc pc = .ok (.bastore, 1)) {w' : Nat → va_W} (hw : ∀ j : Nat, w.set q (a, .inl (cA, len, .inl (upd f j (vp_nar .byte x)))) = w' j) (h : ∀ j : Nat, j < len → K j = some res → vv_ p l e R s m args below meth c D A nL Q n k (w' j) lv (pc + 1) st) : vv_ p l e R s m args below meth c D A nL Q n k w lv pc (.int x :: .int i :: .ref a :: st) := fun H locs ls hP hD hS hL => va_bast C.1.1 C.1.2.1 C.2.1 hP hD hS q t ha ht (gd_some hF).1 hd (fun H1 locs1 hP1 hD1 hS1 => h _ (gd_some hF).2.1 (gd_some hF).2.2 H1 locs1 ls (by rw [hw] at hP1; exact hP1) (by rw [hw] at hD1; exact hD1) hS1 hL)
theorem vv_zast {α : Type} {K : Nat → Option α} {res : α} (C : vv_X p s m args meth c D tys A nL cc own Ts) (q t : Nat) {a : Nat} {cA : ClassId} {len : Nat} {f : Nat → Int32} (ha : w[q]? = some (a, .inl (cA, len, .inl f))) (ht : tys[t]? = some (cA, .boolean)) {i x : Int32} (hF : gd_ i len K = some res) (hd : decode cc pc = .ok (.bastore, 1)) {w' : Nat → va_W} (hw : ∀ j : Nat, w.set q (a, .inl (cA, len, .inl (upd f j (vp_nar .boolean x)))) = w' j) (h : ∀ j : Nat, j < len → K j = some res → vv_ p l e R s m args below meth c D A nL Q n k (w' j) lv (pc + 1) st) : vv_ p l e R s m args below meth c D A nL Q n k w lv pc (.int x :: .int i :: .ref a :: st) := fun H locs ls hP hD hS hL => va_zast C.1.1 C.1.2.1 C.2.1 hP hD hS q t ha ht (gd_some hF).1 hd (fun H1 locs1 hP1 hD1 hS1 => h _ (gd_some hF).2.1 (gd_some hF).2.2 H1 locs1 ls (by rw [hw] at hP1; exact hP1) (by rw [hw] at hD1; exact hD1) hS1 hL)
theorem vv_get (C : vv_X p s m args meth c D tys A nL cc own Ts) {Cn : String} {T : u_T} {N ci idx a : Nat} (hin : ∀ w ∈ u_ws Cn T N, w ∈ Ts) (q : Nat) {fs : List Value} (he : w[q]? = some (a, .inr (ci, fs))) (hc : vwCl[ci]? = some (Cn, T, N)) (kf : Nat) (hk : kf < N) (hlink : Cond.fieldLink own idx (T kf).1 (T kf).2.1 (T kf).2.2.1 ∈ Ts) {v : Value} (hv : fs[kf]? = some v) (hd : decode cc pc = .ok (.getfield idx, 3)) (h : vv_ p l e R s m args below meth c D A nL Q n k w lv (pc + 3) (v :: st)) : vv_ p l e R s m args below meth c D A nL Q n k w lv pc (.ref a :: st) := fun H locs ls hP hD hS hL => va_get (D := D) (ci := ci) (v := v) (C := Cn) (T := T) (N := N) C.1.1 C.1.2.1 C.1.2.2.2.2 hin C.1.2.2.2.1 C.2.1 hP q he hc kf hk (C.1.2.2.2.2 _ hlink) (fun _ h9 => h9) hv hd (h H locs ls hP hD hS hL)
theorem vv_put (C : vv_X p s m args meth c D tys A nL cc own Ts) {Cn : String} {T : u_T} {N ci idx a : Nat} (hin : ∀ w ∈ u_ws Cn T N, w ∈ Ts) (ty0 : Nat → FieldType) (hty : ∀ k, k < N → parseFieldDescriptor (T k).2.2.1 = some (ty0 k)) (hnm : ∀ a, a < N → ∀ b, b < N → a ≠ b → (T a).2.1 ≠ (T b).2.1) (q : Nat) {fs : List Value} (he : w[q]? = some (a, .inr (ci, fs))) (hc : vwCl[ci]? = some (Cn, T, N)) (kf : Nat) (hk : kf < N) (hlink : Cond.fieldLink own idx (T kf).1 (T kf).2.1 (T kf).2.2.1 ∈ Ts) (hfin : (T kf).2.2.2 = false) {v : Value} (hn : narrow (ty0 kf) v = v) (hfit : fits (ty0 kf) v = true) (hl : kf < fs.length) (hd : decode cc pc = .ok (.putfield idx, 3)) {w' : va_W} (hw : w.set q (a, .inr (ci, fs.set kf v)) = w') (h : vv_ p l e R s m args below meth c D A nL Q n k w' lv (pc + 3) st) : vv_ p l e R s m args below meth c D A nL Q n k w lv pc (v :: .ref a :: st) := fun H locs ls hP hD hS hL => va_put (D := D) (ci := ci) (v := v) (ty := ty0 kf) (C := Cn) (T := T) (N := N) C.1.1 C.1.2.1 C.1.2.2.2.2 hin ty0 hty hnm C.1.2.2.2.1 C.2.1 hP hD hS q he hc kf hk (C.1.2.2.2.2 _ hlink) (fun _ h9 => h9) hfin (hty kf hk) hn hfit hl hd (fun H1 locs1 hP1 hD1 hS1 => h H1 locs1 ls (by rw [hw] at hP1; exact hP1) (by rw [hw] at hD1; exact hD1) hS1 hL)
theorem vv_putF (C : vv_X p s m args meth c D tys A nL cc own Ts) {Cn : String} {T : u_T} {N ci idx a : Nat} (hin : ∀ w ∈ u_ws Cn T N, w ∈ Ts) (ty0 : Nat → FieldType) (hty : ∀ k, k < N → parseFieldDescriptor (T k).2.2.1 = some (ty0 k)) (hnm : ∀ a, a < N → ∀ b, b < N → a ≠ b → (T a).2.1 ≠ (T b).2.1) (q : Nat) {fs : List Value} (he : w[q]? = some (a, .inr (ci, fs))) (hc : vwCl[ci]? = some (Cn, T, N)) (kf : Nat) (hk : kf < N) (hlink : Cond.fieldLink own idx (T kf).1 (T kf).2.1 (T kf).2.2.1 ∈ Ts) (hfin : (T kf).2.2.2 = true) (hini : meth.name = "<init>") (hdecl : (T kf).1 = own) {v : Value} (hn : narrow (ty0 kf) v = v) (hfit : fits (ty0 kf) v = true) (hl : kf < fs.length) (hd : decode cc pc = .ok (.putfield idx, 3)) {w' : va_W} (hw : w.set q (a, .inr (ci, fs.set kf v)) = w') (h : vv_ p l e R s m args below meth c D A nL Q n k w' lv (pc + 3) st) : vv_ p l e R s m args below meth c D A nL Q n k w lv pc (v :: .ref a :: st) := fun H locs ls hP hD hS hL => va_putF (D := D) (ci := ci) (v := v) (ty := ty0 kf) (C := Cn) (T := T) (N := N) C.1.1 C.1.2.1 C.1.2.2.2.2 hin ty0 hty hnm C.1.2.2.2.1 C.2.1 hP hD hS q he hc kf hk (C.1.2.2.2.2 _ hlink) (fun _ h9 => h9) hfin hini hdecl (hty kf hk) hn hfit hl hd (fun H1 locs1 hP1 hD1 hS1 => h H1 locs1 ls (by rw [hw] at hP1; exact hP1) (by rw [hw] at hD1; exact hD1) hS1 hL)
theorem vv_alen (C : vv_X p s m args meth c D tys A nL cc own Ts) (q t : Nat) {a : Nat} {cA : ClassId} {x : vp_A} {ty : FieldType} (ha : w[q]? = some (a, .inl (cA, x))) (ht : tys[t]? = some (cA, ty)) {v : Int32} (hv : Int32.ofNat x.1 = v) (hd : decode cc pc = .ok (.arraylength, 1)) (h : vv_ p l e R s m args below meth c D A nL Q n k w lv (pc + 1) (.int v :: st)) : vv_ p l e R s m args below meth c D A nL Q n k w lv pc (.ref a :: st) := fun H locs ls hP hD hS hL => va_alen C.1.1 C.1.2.1 C.2.1 hP q t ha ht hv hd (h H locs ls hP hD hS hL)
theorem vv_ldc (C : vv_X p s m args meth c D tys A nL cc own Ts) {idx : Nat} {v : Int32} (hm : Cond.constant own idx v ∈ Ts) (hd : decode cc pc = .ok (.ldc idx, 2)) (h : vv_ p l e R s m args below meth c D A nL Q n k w lv (pc + 2) (.int v :: st)) : vv_ p l e R s m args below meth c D A nL Q n k w lv pc st := fun H locs ls hP hD hS hL => lv_ldc C.1.1 C.1.2.1 C.1.2.2.2.1 (C.1.2.2.2.2 _ hm) hd (h H locs ls hP hD hS hL)
end VVA
end
section
/-! CONTRACTS in one form: from the world w, the answer is r and the world is w' behind it; calls as rows of vv_ -/
/-- what a contract asks of the tables and of the cells that are nobody's (E), beside its world -/
def ct_Pre (D : va_G) (tys : List (ClassId × FieldType)) (E : (Nat → Prop) → State → Prop) (w : va_W) (sz : Nat) (U : State) : Prop := U.heap.size = sz ∧ va_P D vwCl w U.heap ∧ va_K D vwCl tys U ∧ va_D (fun _ => True) w ∧ E (va_A w sz) U
def ct_B (D : va_G) (A : Nat → Prop) (w' : va_W) (t : State) : Prop := va_P D vwCl w' t.heap ∧ va_D A w'
def ct_I (l : Launch) (D : va_G) (tys : List (ClassId × FieldType)) (E : (Nat → Prop) → State → Prop) (y : MethodName) (ws : List Cond) (rm : Room) (As : List Value) (w : va_W) (r : Int32) (w' : va_W) : Prop :=
  ∀ sz : Nat, Met l y ws rm (va_Pc As (ct_Pre D tys E w sz)) (va_Qi (fun (x : Int32) (_ : Unit) => x = r) (fun _ => ct_B D (va_A w sz) w') (va_A w sz)) 0 0 (va_A w sz)
def ct_V (l : Launch) (D : va_G) (tys : List (ClassId × FieldType)) (E : (Nat → Prop) → State → Prop) (y : MethodName) (ws : List Cond) (rm : Room) (As : List Value) (w : va_W) (w' : va_W) : Prop :=
  ∀ sz : Nat, Met l y ws rm (va_Pc As (ct_Pre D tys E w sz)) (va_Qv (fun (_ : Unit) => True) (fun _ => ct_B D (va_A w sz) w') (va_A w sz)) 0 0 (va_A w sz)
def ct_Q (l : Launch) (D : va_G) (tys : List (ClassId × FieldType)) (E : (Nat → Prop) → State → Prop) (y : MethodName) (ws : List Cond) (rm : Room) (As : List Value) (w : va_W) (r : Option Nat) (w' : va_W) : Prop :=
  ∀ sz : Nat, Met l y ws rm (va_Pc As (ct_Pre D tys E w sz)) (va_Qq (fun (x : Option Nat) (_ : Unit) => x = r) (fun _ => ct_B D (va_A w sz) w') (va_A w sz)) 0 0 (va_A w sz)
/-- E is blind to frames, and goes over to a callee -/
def ct_E (E : (Nat → Prop) → State → Prop) : Prop := (∀ (A : Nat → Prop) (a : Array Value) (U : State) (g : JFrame) (mk : MethodId), E A U → E A (U.calling g mk a)) ∧
  ∀ (A B : Nat → Prop) (s U : State), E A s → s.WarmedH U.vm → (∀ q : Nat, B q → q < s.heap.size → A q) → (∀ q : Nat, q < s.heap.size → ¬ A q → U.heap[q]? = s.heap[q]?) → E B U
theorem ct_blind {D : va_G} {tys : List (ClassId × FieldType)} {E : (Nat → Prop) → State → Prop} {w : va_W} {sz : Nat} {As : List Value} (hE : ct_E E) : FrameBlind (va_Pc As (ct_Pre D tys E w sz)) := fun a U g mk q => by
  obtain ⟨q0, q1, qP, qK, qD, qE⟩ := q
  exact ⟨q0, q1, qP, va_K.moved (u := U) (U := U.calling g mk a) (Vm.Alike.refl U.vm) qK, qD, hE.1 _ _ _ _ _ qE⟩
section CTA
variable {p : Program} {l : Launch} {e : Env} {R : Room} {s : State} {m : MethodId} {args : Array Value} {below : List Frame} {meth : Method} {c : Code} {D : va_G} {tys : List (ClassId × FieldType)} {A : Nat → Prop} {nL : Nat} {Q : State → Prop} {n k : Nat} {w : va_W} {lv : List (Nat × Value)} {pc : Nat} {st : List Value}
variable {cc : ByteArray} {own : String} {Ts : List Cond} {E : (Nat → Prop) → State → Prop}
theorem ct_free {H : Heap} {locs : List Loc} (C : vv_X p s m args meth c D tys A nL cc own Ts) (hD : va_D A w) (hS : va_S A s.heap H locs) : ∀ q : Nat, va_A w H.size q → A q := by
  intro q h
  rcases h with ⟨i, x, h⟩ | h
  · exact hD.2 i _ h
  · exact C.2.2 q (Nat.le_trans hS.1 h)
theorem ct_pre {H : Heap} {locs : List Loc} (C : vv_X p s m args meth c D tys A nL cc own Ts) (hE : ct_E E) (h0 : E A s) (hP : va_P D vwCl w H) (hD : va_D A w) (hS : va_S A s.heap H locs) {U : State} (hU : U.heap = H) (hW : s.WarmedH U.vm) : ct_Pre D tys E w H.size U := by
  refine ⟨by rw [hU], by rw [hU]; exact hP, va_K.moved hW.alike C.2.1, hD.weaken (fun _ _ _ _ => trivial), hE.2 A _ s U h0 hW (fun q h _ => ct_free C hD hS q h) (fun q h1 h2 => by rw [hU]; exact hS.2.1 q h1 h2)⟩
/-- what a call of an instance method asks: words, room, receiver -/
theorem vv_callVi {α β : Type} {F : Option α} {K : α → Option β} {res : β} (ans : α → Int32) (wof : α → va_W) (C : vv_X p s m args meth c D tys A nL cc own Ts) (hE : ct_E E) (h0 : E A s) {idx : Nat} {Cn : String} {T : u_T} {N ci : Nat} {y : MethodName} {bytes : ByteArray} {maxL : Nat} {ret : Option FieldType} {ws ws' : List Cond} {rm : Room} {b : Nat} (As rest : List Value) (na : Nat) (hF : bn_ F K = some res)
    (hM : ∀ x, F = some x → ct_I l D tys E y ws rm (.ref b :: As) w (ans x) (wof x)) (hg : GoodIn Ts (wsV own idx Cn y ws)) (hw : ws = Cond.code y bytes maxL ret :: ws') (hrc : rm.cells = 0) (hrs : rm.slots = 0) (hy : y.cls = Cn ∧ y.cls ≠ "java/lang/invoke/MethodHandle" ∧ y.cls ≠ "java/lang/invoke/VarHandle" ∧ (parseMethodDescriptor y.desc).map (fun d => d.parameters.length) = some na) (hR : rm.frames + 1 ≤ R.frames ∧ 8 + (maxL + 11) + rm.locals ≤ R.locals)
    (q0 : Nat) {fs : List Value} (he : w[q0]? = some (b, .inr (ci, fs))) (hc : vwCl[ci]? = some (Cn, T, N)) (hna : As.length = na) (hst : st = As.reverse ++ .ref b :: rest) (hrm : (rest.map fun v => v.category).sum ≤ 8) (hd : decode cc pc = .ok (.invokevirtual idx, 3)) (hnk : n ≤ R.cells ∧ k ≤ R.slots)
    (h : ∀ x, K x = some res → vv_ p l e R s m args below meth c D A nL Q n k (wof x) lv (pc + 3) (.int (ans x) :: rest)) : vv_ p l e R s m args below meth c D A nL Q n k w lv pc st := by
  intro H locs ls hP hD hS hL
  obtain ⟨x, hx, hK⟩ := bn_some hF
  subst hst
  have hFc := ct_free C hD hS
  refine va_calli (va_runV (As := As) (rest := rest) C.1 (hM x hx H.size) (cwV na C.1.2.2.2.2 hg hw hrc hrs hy hR) ⟨ct_blind (As := .ref b :: As) hE, va_recv C.2.1 hP hc he, fun U hU hW => ⟨rfl, ct_pre C hE h0 hP hD hS hU hW⟩⟩ rfl hna hL.1 rfl (lv_room hrm) hd hnk) hS (fun q _ h => hFc q h) hFc (fun r u t H1 locs1 ht hvm hp hB hz hk1 hS1 => ?_)
  subst hp
  exact h x hK H1 locs1 ls (by rw [← ht]; exact hB.1) (hB.2.weaken (fun _ q _ h9 => hFc q.1 h9)) hS1 hL
theorem vv_callVv {α β : Type} {F : Option α} {K : α → Option β} {res : β} (wof : α → va_W) (C : vv_X p s m args meth c D tys A nL cc own Ts) (hE : ct_E E) (h0 : E A s) {idx : Nat} {Cn : String} {T : u_T} {N ci : Nat} {y : MethodName} {bytes : ByteArray} {maxL : Nat} {ret : Option FieldType} {ws ws' : List Cond} {rm : Room} {b : Nat} (As rest : List Value) (na : Nat) (hF : bn_ F K = some res)
    (hM : ∀ x, F = some x → ct_V l D tys E y ws rm (.ref b :: As) w (wof x)) (hg : GoodIn Ts (wsV own idx Cn y ws)) (hw : ws = Cond.code y bytes maxL ret :: ws') (hrc : rm.cells = 0) (hrs : rm.slots = 0) (hy : y.cls = Cn ∧ y.cls ≠ "java/lang/invoke/MethodHandle" ∧ y.cls ≠ "java/lang/invoke/VarHandle" ∧ (parseMethodDescriptor y.desc).map (fun d => d.parameters.length) = some na) (hR : rm.frames + 1 ≤ R.frames ∧ 8 + (maxL + 11) + rm.locals ≤ R.locals)
    (q0 : Nat) {fs : List Value} (he : w[q0]? = some (b, .inr (ci, fs))) (hc : vwCl[ci]? = some (Cn, T, N)) (hna : As.length = na) (hst : st = As.reverse ++ .ref b :: rest) (hrm : (rest.map fun v => v.category).sum ≤ 8) (hd : decode cc pc = .ok (.invokevirtual idx, 3)) (hnk : n ≤ R.cells ∧ k ≤ R.slots)
    (h : ∀ x, K x = some res → vv_ p l e R s m args below meth c D A nL Q n k (wof x) lv (pc + 3) rest) : vv_ p l e R s m args below meth c D A nL Q n k w lv pc st := by
  intro H locs ls hP hD hS hL
  obtain ⟨x, hx, hK⟩ := bn_some hF
  subst hst
  have hFc := ct_free C hD hS
  refine va_callv (va_runV (As := As) (rest := rest) C.1 (hM x hx H.size) (cwV na C.1.2.2.2.2 hg hw hrc hrs hy hR) ⟨ct_blind (As := .ref b :: As) hE, va_recv C.2.1 hP hc he, fun U hU hW => ⟨rfl, ct_pre C hE h0 hP hD hS hU hW⟩⟩ rfl hna hL.1 rfl (lv_room hrm) hd hnk) hS (fun q _ h => hFc q h) hFc (fun u t H1 locs1 ht hvm hp hB hz hk1 hS1 => ?_)
  exact h x hK H1 locs1 ls (by rw [← ht]; exact hB.1) (hB.2.weaken (fun _ q _ h9 => hFc q.1 h9)) hS1 hL
theorem vv_callVq {α β : Type} {F : Option α} {K : α → Option β} {res : β} (ans : α → Option Nat) (wof : α → va_W) (C : vv_X p s m args meth c D tys A nL cc own Ts) (hE : ct_E E) (h0 : E A s) {idx : Nat} {Cn : String} {T : u_T} {N ci : Nat} {y : MethodName} {bytes : ByteArray} {maxL : Nat} {ret : Option FieldType} {ws ws' : List Cond} {rm : Room} {b : Nat} (As rest : List Value) (na : Nat) (hF : bn_ F K = some res)
    (hM : ∀ x, F = some x → ct_Q l D tys E y ws rm (.ref b :: As) w (ans x) (wof x)) (hg : GoodIn Ts (wsV own idx Cn y ws)) (hw : ws = Cond.code y bytes maxL ret :: ws') (hrc : rm.cells = 0) (hrs : rm.slots = 0) (hy : y.cls = Cn ∧ y.cls ≠ "java/lang/invoke/MethodHandle" ∧ y.cls ≠ "java/lang/invoke/VarHandle" ∧ (parseMethodDescriptor y.desc).map (fun d => d.parameters.length) = some na) (hR : rm.frames + 1 ≤ R.frames ∧ 8 + (maxL + 11) + rm.locals ≤ R.locals)
    (q0 : Nat) {fs : List Value} (he : w[q0]? = some (b, .inr (ci, fs))) (hc : vwCl[ci]? = some (Cn, T, N)) (hna : As.length = na) (hst : st = As.reverse ++ .ref b :: rest) (hrm : (rest.map fun v => v.category).sum ≤ 8) (hd : decode cc pc = .ok (.invokevirtual idx, 3)) (hnk : n ≤ R.cells ∧ k ≤ R.slots)
    (h : ∀ x, F = some x → K x = some res → vv_ p l e R s m args below meth c D A nL Q n k (wof x) lv (pc + 3) (va_rf (ans x) :: rest)) : vv_ p l e R s m args below meth c D A nL Q n k w lv pc st := by
  intro H locs ls hP hD hS hL
  obtain ⟨x, hx, hK⟩ := bn_some hF
  subst hst
  have hFc := ct_free C hD hS
  refine va_callq (va_runV (As := As) (rest := rest) C.1 (hM x hx H.size) (cwV na C.1.2.2.2.2 hg hw hrc hrs hy hR) ⟨ct_blind (As := .ref b :: As) hE, va_recv C.2.1 hP hc he, fun U hU hW => ⟨rfl, ct_pre C hE h0 hP hD hS hU hW⟩⟩ rfl hna hL.1 rfl (lv_room hrm) hd hnk) hS (fun q _ h => hFc q h) hFc (fun r u t H1 locs1 ht hvm hp hB hz hk1 hS1 => ?_)
  subst hp
  exact h x hx hK H1 locs1 ls (by rw [← ht]; exact hB.1) (hB.2.weaken (fun _ q _ h9 => hFc q.1 h9)) hS1 hL
theorem vv_callSi {α β : Type} {F : Option α} {K : α → Option β} {res : β} (ans : α → Int32) (wof : α → va_W) (C : vv_X p s m args meth c D tys A nL cc own Ts) (hE : ct_E E) (h0 : E A s) {idx : Nat} {y : MethodName} {bytes : ByteArray} {maxL : Nat} {ret : Option FieldType} {ws ws' : List Cond} {rm : Room} (As rest : List Value) (na : Nat) (hF : bn_ F K = some res)
    (hM : ∀ x, F = some x → ct_I l D tys E y ws rm As w (ans x) (wof x)) (hg : GoodIn Ts (va_wsS own idx y ws)) (hw : ws = Cond.code y bytes maxL ret :: ws') (hrc : rm.cells = 0) (hrs : rm.slots = 0) (hy : y.cls ≠ "java/lang/invoke/MethodHandle" ∧ y.cls ≠ "java/lang/invoke/VarHandle" ∧ (parseMethodDescriptor y.desc).map (fun d => d.parameters.length) = some na) (hR : rm.frames + 1 ≤ R.frames ∧ 8 + (maxL + 11) + rm.locals ≤ R.locals)
    (hna : As.length = na) (hst : st = As.reverse ++ rest) (hrm : (rest.map fun v => v.category).sum ≤ 8) (hd : decode cc pc = .ok (.invokestatic idx, 3)) (hnk : n ≤ R.cells ∧ k ≤ R.slots)
    (h : ∀ x, K x = some res → vv_ p l e R s m args below meth c D A nL Q n k (wof x) lv (pc + 3) (.int (ans x) :: rest)) : vv_ p l e R s m args below meth c D A nL Q n k w lv pc st := by
  intro H locs ls hP hD hS hL
  obtain ⟨x, hx, hK⟩ := bn_some hF
  subst hst
  have hFc := ct_free C hD hS
  refine va_calli (va_runS (As := As) (rest := rest) C.1 (hM x hx H.size) (va_cwS na C.1.2.2.2.2 hg hw hrc hrs hy hR) ⟨ct_blind (As := As) hE, fun U hU hW => ⟨rfl, ct_pre C hE h0 hP hD hS hU hW⟩⟩ rfl hna hL.1 rfl (lv_room hrm) hd hnk) hS (fun q _ h => hFc q h) hFc (fun r u t H1 locs1 ht hvm hp hB hz hk1 hS1 => ?_)
  subst hp
  exact h x hK H1 locs1 ls (by rw [← ht]; exact hB.1) (hB.2.weaken (fun _ q _ h9 => hFc q.1 h9)) hS1 hL
theorem vv_callSv {α β : Type} {F : Option α} {K : α → Option β} {res : β} (wof : α → va_W) (C : vv_X p s m args meth c D tys A nL cc own Ts) (hE : ct_E E) (h0 : E A s) {idx : Nat} {y : MethodName} {bytes : ByteArray} {maxL : Nat} {ret : Option FieldType} {ws ws' : List Cond} {rm : Room} (As rest : List Value) (na : Nat) (hF : bn_ F K = some res)
    (hM : ∀ x, F = some x → ct_V l D tys E y ws rm As w (wof x)) (hg : GoodIn Ts (va_wsS own idx y ws)) (hw : ws = Cond.code y bytes maxL ret :: ws') (hrc : rm.cells = 0) (hrs : rm.slots = 0) (hy : y.cls ≠ "java/lang/invoke/MethodHandle" ∧ y.cls ≠ "java/lang/invoke/VarHandle" ∧ (parseMethodDescriptor y.desc).map (fun d => d.parameters.length) = some na) (hR : rm.frames + 1 ≤ R.frames ∧ 8 + (maxL + 11) + rm.locals ≤ R.locals)
    (hna : As.length = na) (hst : st = As.reverse ++ rest) (hrm : (rest.map fun v => v.category).sum ≤ 8) (hd : decode cc pc = .ok (.invokestatic idx, 3)) (hnk : n ≤ R.cells ∧ k ≤ R.slots)
    (h : ∀ x, K x = some res → vv_ p l e R s m args below meth c D A nL Q n k (wof x) lv (pc + 3) rest) : vv_ p l e R s m args below meth c D A nL Q n k w lv pc st := by
  intro H locs ls hP hD hS hL
  obtain ⟨x, hx, hK⟩ := bn_some hF
  subst hst
  have hFc := ct_free C hD hS
  refine va_callv (va_runS (As := As) (rest := rest) C.1 (hM x hx H.size) (va_cwS na C.1.2.2.2.2 hg hw hrc hrs hy hR) ⟨ct_blind (As := As) hE, fun U hU hW => ⟨rfl, ct_pre C hE h0 hP hD hS hU hW⟩⟩ rfl hna hL.1 rfl (lv_room hrm) hd hnk) hS (fun q _ h => hFc q h) hFc (fun u t H1 locs1 ht hvm hp hB hz hk1 hS1 => ?_)
  exact h x hK H1 locs1 ls (by rw [← ht]; exact hB.1) (hB.2.weaken (fun _ q _ h9 => hFc q.1 h9)) hS1 hL
/-- a private static method of the nest's host -/
theorem vv_callNi {α β : Type} {F : Option α} {K : α → Option β} {res : β} (ans : α → Int32) (wof : α → va_W) (C : vv_X p s m args meth c D tys A nL cc own Ts) (hE : ct_E E) (h0 : E A s) {idx : Nat} {host : String} {y : MethodName} {bytes : ByteArray} {maxL : Nat} {ret : Option FieldType} {ws ws' : List Cond} {rm : Room} (As rest : List Value) (na : Nat) (hF : bn_ F K = some res)
    (hM : ∀ x, F = some x → ct_I l D tys E y ws rm As w (ans x) (wof x)) (hg : GoodIn Ts ws) (hl : va_Nw (.methodLinkNest own idx y host) s) (hi : Cond.initialized y.cls ∈ Ts) (hs : Cond.static y ∈ Ts) (hw : ws = Cond.code y bytes maxL ret :: ws') (hrc : rm.cells = 0) (hrs : rm.slots = 0) (hy : y.cls ≠ "java/lang/invoke/MethodHandle" ∧ y.cls ≠ "java/lang/invoke/VarHandle" ∧ (parseMethodDescriptor y.desc).map (fun d => d.parameters.length) = some na) (hR : rm.frames + 1 ≤ R.frames ∧ 8 + (maxL + 11) + rm.locals ≤ R.locals)
    (hna : As.length = na) (hst : st = As.reverse ++ rest) (hrm : (rest.map fun v => v.category).sum ≤ 8) (hd : decode cc pc = .ok (.invokestatic idx, 3)) (hnk : n ≤ R.cells ∧ k ≤ R.slots)
    (h : ∀ x, K x = some res → vv_ p l e R s m args below meth c D A nL Q n k (wof x) lv (pc + 3) (.int (ans x) :: rest)) : vv_ p l e R s m args below meth c D A nL Q n k w lv pc st := by
  intro H locs ls hP hD hS hL
  obtain ⟨x, hx, hK⟩ := bn_some hF
  subst hst
  have hFc := ct_free C hD hS
  refine va_calli (va_runSN (As := As) (rest := rest) C.1 (hM x hx H.size) ⟨va_cnB na C.1.2.2.2.2 hg hw hrc hrs hl (C.1.2.2.2.2 _ hi) hy hR, C.1.2.2.2.2 _ hs, trivial⟩ ⟨ct_blind (As := As) hE, fun U hU hW => ⟨rfl, ct_pre C hE h0 hP hD hS hU hW⟩⟩ rfl hna hL.1 rfl (lv_room hrm) hd hnk) hS (fun q _ h => hFc q h) hFc (fun r u t H1 locs1 ht hvm hp hB hz hk1 hS1 => ?_)
  subst hp
  exact h x hK H1 locs1 ls (by rw [← ht]; exact hB.1) (hB.2.weaken (fun _ q _ h9 => hFc q.1 h9)) hS1 hL
end CTA
/-- a method's end: with that answer and that world, at any return -/
def rt_I (p : Program) (l : Launch) (e : Env) (R : Room) (s : State) (m : MethodId) (args : Array Value) (below : List Frame) (meth : Method) (c : Code) (D : va_G) (A : Nat → Prop) (nL : Nat) (Q : State → Prop) (cc : ByteArray) (ty : FieldType) (w : va_W) (r : Int32) : Prop :=
  ∀ (lv : List (Nat × Value)) (pc : Nat), decode cc pc = .ok (.ireturn, 1) → narrow ty (.int r) = .int r → vv_ p l e R s m args below meth c D A nL Q 0 0 w lv pc [.int r]
def rt_V (p : Program) (l : Launch) (e : Env) (R : Room) (s : State) (m : MethodId) (args : Array Value) (below : List Frame) (meth : Method) (c : Code) (D : va_G) (A : Nat → Prop) (nL : Nat) (Q : State → Prop) (cc : ByteArray) (w : va_W) : Prop :=
  ∀ (lv : List (Nat × Value)) (pc : Nat), decode cc pc = .ok (.return_, 1) → vv_ p l e R s m args below meth c D A nL Q 0 0 w lv pc []
def rt_Q (p : Program) (l : Launch) (e : Env) (R : Room) (s : State) (m : MethodId) (args : Array Value) (below : List Frame) (meth : Method) (c : Code) (D : va_G) (A : Nat → Prop) (nL : Nat) (Q : State → Prop) (cc : ByteArray) (w : va_W) (r : Option Nat) : Prop :=
  ∀ (lv : List (Nat × Value)) (pc : Nat), decode cc pc = .ok (.areturn, 1) → vv_ p l e R s m args below meth c D A nL Q 0 0 w lv pc [va_rf r]
theorem mt_I {l : Launch} {D : va_G} {tys : List (ClassId × FieldType)} {E : (Nat → Prop) → State → Prop} {y : MethodName} {ws ws' : List Cond} {rm : Room} {cc : ByteArray} {maxL : Nat} {ty : FieldType} {As : List Value} {w w' : va_W} {r : Int32} (hy : plainName y.cls = true) (hw : ws = Cond.code y cc maxL (some ty) :: ws') (hlen : (lg_sl As).length ≤ maxL)
    (body : ∀ (p : Program) (e : Env) (s : State) (m : MethodId) (args : Array Value) (below : List Frame) (meth : Method) (c : Code) (A : Nat → Prop) (Q : State → Prop), vv_X p s m args meth c D tys A maxL cc y.cls ws → E A s → rt_I p l e rm s m args below meth c D A maxL Q cc ty w' r → vv_ p l e rm s m args below meth c D A maxL Q 0 0 w (lv_args 0 As) 0 []) : ct_I l D tys E y ws rm As w r w' := by
  intro sz
  refine Met.ofW (cc := cc) (maxL := maxL) (ret := some ty) hy hw ?_
  intro p e s m args below meth c s₁ B hml hv
  obtain ⟨rfl, hsz, hP, hK, hD0, hE⟩ := hv
  have hts := atoms_spec (ws := ws) B.pre
  have hown : s.vm.findClass y.cls = some m.cls := findClass_of_methodNamed B.named
  subst hsz
  have hD := hD0.self (sz := s.heap.size)
  have hl := lv_entry As (n := maxL) hlen
  rw [lg_entry_eq]
  refine body p e s m As.toArray below meth c (va_A w s.heap.size) _ ⟨⟨B.exec, B.bytes, hml, hown, hts⟩, hK, fun q h => Or.inr h⟩ hE ?_ s.heap [] _ hP hD va_S.rf hl
  intro lv pc hd hn H locs ls hP1 hD1 hS1 hL1
  exact W.zret (v := r) B.exec B.bytes B.returns hn (fun t ht hW => ⟨⟨r, (), rfl, rfl, by rw [ht]; exact hP1, hD1⟩, hS1.F ht⟩) hS1.2.2 hd B.notSynchronized
theorem mt_V {l : Launch} {D : va_G} {tys : List (ClassId × FieldType)} {E : (Nat → Prop) → State → Prop} {y : MethodName} {ws ws' : List Cond} {rm : Room} {cc : ByteArray} {maxL : Nat} {As : List Value} {w w' : va_W} (hy : plainName y.cls = true) (hw : ws = Cond.code y cc maxL none :: ws') (hlen : (lg_sl As).length ≤ maxL)
    (body : ∀ (p : Program) (e : Env) (s : State) (m : MethodId) (args : Array Value) (below : List Frame) (meth : Method) (c : Code) (A : Nat → Prop) (Q : State → Prop), vv_X p s m args meth c D tys A maxL cc y.cls ws → E A s → rt_V p l e rm s m args below meth c D A maxL Q cc w' → vv_ p l e rm s m args below meth c D A maxL Q 0 0 w (lv_args 0 As) 0 []) : ct_V l D tys E y ws rm As w w' := by
  intro sz
  refine Met.ofW (cc := cc) (maxL := maxL) (ret := none) hy hw ?_
  intro p e s m args below meth c s₁ B hml hv
  obtain ⟨rfl, hsz, hP, hK, hD0, hE⟩ := hv
  have hts := atoms_spec (ws := ws) B.pre
  have hown : s.vm.findClass y.cls = some m.cls := findClass_of_methodNamed B.named
  subst hsz
  have hD := hD0.self (sz := s.heap.size)
  have hl := lv_entry As (n := maxL) hlen
  rw [lg_entry_eq]
  refine body p e s m As.toArray below meth c (va_A w s.heap.size) _ ⟨⟨B.exec, B.bytes, hml, hown, hts⟩, hK, fun q h => Or.inr h⟩ hE ?_ s.heap [] _ hP hD va_S.rf hl
  intro lv pc hd H locs ls hP1 hD1 hS1 hL1
  exact W.vret B.exec B.bytes B.returns (fun t ht hW => ⟨⟨(), rfl, trivial, by rw [ht]; exact hP1, hD1⟩, hS1.F ht⟩) hS1.2.2 hd B.notSynchronized
theorem mt_Q {l : Launch} {D : va_G} {tys : List (ClassId × FieldType)} {E : (Nat → Prop) → State → Prop} {y : MethodName} {ws ws' : List Cond} {rm : Room} {cc : ByteArray} {maxL : Nat} {nm : String} {As : List Value} {w w' : va_W} {r : Option Nat} (hy : plainName y.cls = true) (hw : ws = Cond.code y cc maxL (some (.object nm)) :: ws') (hlen : (lg_sl As).length ≤ maxL)
    (body : ∀ (p : Program) (e : Env) (s : State) (m : MethodId) (args : Array Value) (below : List Frame) (meth : Method) (c : Code) (A : Nat → Prop) (Q : State → Prop), vv_X p s m args meth c D tys A maxL cc y.cls ws → E A s → rt_Q p l e rm s m args below meth c D A maxL Q cc w' r → vv_ p l e rm s m args below meth c D A maxL Q 0 0 w (lv_args 0 As) 0 []) : ct_Q l D tys E y ws rm As w r w' := by
  intro sz
  refine Met.ofW (cc := cc) (maxL := maxL) (ret := some (.object nm)) hy hw ?_
  intro p e s m args below meth c s₁ B hml hv
  obtain ⟨rfl, hsz, hP, hK, hD0, hE⟩ := hv
  have hts := atoms_spec (ws := ws) B.pre
  have hown : s.vm.findClass y.cls = some m.cls := findClass_of_methodNamed B.named
  subst hsz
  have hD := hD0.self (sz := s.heap.size)
  have hl := lv_entry As (n := maxL) hlen
  rw [lg_entry_eq]
  refine body p e s m As.toArray below meth c (va_A w s.heap.size) _ ⟨⟨B.exec, B.bytes, hml, hown, hts⟩, hK, fun q h => Or.inr h⟩ hE ?_ s.heap [] _ hP hD va_S.rf hl
  intro lv pc hd H locs ls hP1 hD1 hS1 hL1
  exact W.aret (v := va_rf r) B.exec B.bytes B.returns (Or.inl ⟨_, rfl⟩) (by cases r with | none => exact Or.inl rfl | some a => exact Or.inr ⟨a, rfl⟩) (fun t ht hW => ⟨⟨r, (), rfl, rfl, by rw [ht]; exact hP1, hD1⟩, hS1.F ht⟩) hS1.2.2 hd B.notSynchronized
/-- no such cells and tables are asked -/
def en_T : (Nat → Prop) → State → Prop := fun _ _ => True
theorem en_ok : ct_E en_T := ⟨fun _ _ _ _ _ _ => trivial, fun _ _ _ _ _ _ _ _ => trivial⟩
end
section
/-! THE STATE of either side: numbers by their places, arrays by their places, how many farms, a farm's numbers -/
abbrev St_ : Type := (Nat → Int32) × (Nat → Nat → Int32) × Nat × (Nat → Nat → Int32)
def sS (σ : St_) (k : Nat) : Int32 := σ.1 k
def sM (σ : St_) (k : Nat) : Nat → Int32 := σ.2.1 k
def sN (σ : St_) : Nat := σ.2.2.1
def sF (σ : St_) (i k : Nat) : Int32 := σ.2.2.2 i k
def uS (σ : St_) (k : Nat) (v : Int32) : St_ := (fun j => if j = k then v else σ.1 j, σ.2)
def uA (σ : St_) (k : Nat) (f : Nat → Int32) : St_ := (σ.1, fun j => if j = k then f else σ.2.1 j, σ.2.2)
def uM (σ : St_) (k j : Nat) (v : Int32) : St_ := uA σ k (upd (sM σ k) j v)
def uF (σ : St_) (i k : Nat) (v : Int32) : St_ := (σ.1, σ.2.1, σ.2.2.1, fun a b => if a = i then (if b = k then v else σ.2.2.2 a b) else σ.2.2.2 a b)
def uN (σ : St_) (f : Nat → Int32) : St_ := (σ.1, σ.2.1, σ.2.2.1 + 1, fun a b => if a = σ.2.2.1 then f b else σ.2.2.2 a b)
theorem sS_uS (σ : St_) (a k : Nat) (v : Int32) : sS (uS σ k v) a = if a = k then v else sS σ a := rfl
theorem sS_uA (σ : St_) (a k : Nat) (f : Nat → Int32) : sS (uA σ k f) a = sS σ a := rfl
theorem sS_uM (σ : St_) (a k j : Nat) (v : Int32) : sS (uM σ k j v) a = sS σ a := rfl
theorem sS_uF (σ : St_) (a i k : Nat) (v : Int32) : sS (uF σ i k v) a = sS σ a := rfl
theorem sM_uS (σ : St_) (a k : Nat) (v : Int32) : sM (uS σ k v) a = sM σ a := rfl
theorem sM_uA (σ : St_) (a k : Nat) (f : Nat → Int32) : sM (uA σ k f) a = if a = k then f else sM σ a := rfl
theorem sM_uM (σ : St_) (a k j : Nat) (v : Int32) : sM (uM σ k j v) a = if a = k then upd (sM σ k) j v else sM σ a := rfl
theorem sM_uF (σ : St_) (a i k : Nat) (v : Int32) : sM (uF σ i k v) a = sM σ a := rfl
theorem sN_uS (σ : St_) (k : Nat) (v : Int32) : sN (uS σ k v) = sN σ := rfl
theorem sN_uA (σ : St_) (k : Nat) (f : Nat → Int32) : sN (uA σ k f) = sN σ := rfl
theorem sN_uM (σ : St_) (k j : Nat) (v : Int32) : sN (uM σ k j v) = sN σ := rfl
theorem sN_uF (σ : St_) (i k : Nat) (v : Int32) : sN (uF σ i k v) = sN σ := rfl
theorem sF_uS (σ : St_) (a b k : Nat) (v : Int32) : sF (uS σ k v) a b = sF σ a b := rfl
theorem sF_uA (σ : St_) (a b k : Nat) (f : Nat → Int32) : sF (uA σ k f) a b = sF σ a b := rfl
theorem sF_uM (σ : St_) (a b k j : Nat) (v : Int32) : sF (uM σ k j v) a b = sF σ a b := rfl
theorem sF_uF (σ : St_) (a b i k : Nat) (v : Int32) : sF (uF σ i k v) a b = if a = i then (if b = k then v else sF σ a b) else sF σ a b := rfl
def tysW (cy : Nat → ClassId) : List (ClassId × FieldType) := [(cy 0, .int), (cy 1, .boolean), (cy 2, .byte), (cy 3, .object "PeerCircle$Farm"), (cy 4, .array .int)]
/-- a farm's cell -/
def fr_ (σ : St_) (i : Nat) : List Value := [.int (sF σ i 0), .int (sF σ i 1), .int (sF σ i 2), .int (sF σ i 3), .int (sF σ i 4), .int (sF σ i 5), .int (sF σ i 6), .int (sF σ i 7)]
/-- THE CLASS'S WORLD -/
def wXf (cy : Nat → ClassId) (ad fad : Nat → Nat) (σ : St_) : va_W := [(ad 0, .inl (cy 0, 60, .inl (sM σ 0))), (ad 1, .inl (cy 0, 6, .inl (sM σ 1))), (ad 2, .inl (cy 0, 6, .inl (sM σ 2))), (ad 3, .inl (cy 0, 10, .inl (sM σ 3))), (ad 4, .inl (cy 0, 10, .inl (sM σ 4))), (ad 5, .inl (cy 0, 22, .inl (sM σ 5))), (ad 6, .inl (cy 0, 22, .inl (sM σ 6))), (ad 7, .inl (cy 0, 22, .inl (sM σ 7))), (ad 8, .inl (cy 0, 10, .inl (sM σ 8))), (ad 9, .inl (cy 0, 10, .inl (sM σ 9))), (ad 10, .inl (cy 0, 10, .inl (sM σ 10))), (ad 11, .inl (cy 0, 8, .inl (sM σ 11))), (ad 12, .inl (cy 0, 10, .inl (sM σ 12))), (ad 13, .inl (cy 0, 10, .inl (sM σ 13))), (ad 14, .inl (cy 0, 10, .inl (sM σ 14))), (ad 15, .inl (cy 0, 10, .inl (sM σ 15))), (ad 16, .inl (cy 0, 10, .inl (sM σ 16))), (ad 17, .inl (cy 0, 10, .inl (sM σ 17))), (ad 18, .inl (cy 0, 10, .inl (sM σ 18))), (ad 19, .inl (cy 0, 10, .inl (sM σ 19))), (ad 20, .inl (cy 0, 10, .inl (sM σ 20))), (ad 21, .inl (cy 0, 10, .inl (sM σ 21))), (ad 22, .inl (cy 4, 10, .inr (.inr (.inr (.inr (fun i => if i < 10 then some (ad (12 + i)) else none)))))), (ad 23, .inl (cy 3, 10, .inr (.inr (.inr (.inr (fun i => if i < sN σ then some (fad i) else none)))))), (ad 24, .inr (3, [.ref (ad 0), .int (sS σ 0)])), (ad 25, .inr (2, [.ref (ad 1), .ref (ad 2), .int (sS σ 1)])), (ad 26, .inr (4, [.ref (ad 3), .ref (ad 4), .ref (ad 22), .int (sS σ 2)])), (ad 27, .inr (1, [.ref (ad 5), .ref (ad 6), .ref (ad 7), .ref (ad 8), .ref (ad 9), .int (sS σ 3), .int (sS σ 4)])), (ad 28, .inr (5, [.ref (ad 24), .ref (ad 25), .ref (ad 26), .ref (ad 27), .ref (ad 23), .ref (ad 10), .ref (ad 11), .int (sS σ 5), .int (sS σ 6)]))]
def wXp (fad : Nat → Nat) (σ : St_) : va_W := (List.range (sN σ)).map (fun i => (fad i, .inr (0, fr_ σ i)))
def wX (cy : Nat → ClassId) (ad fad : Nat → Nat) (σ : St_) : va_W := wXf cy ad fad σ ++ wXp fad σ
theorem wX_a0 (cy : Nat → ClassId) (ad fad : Nat → Nat) (σ : St_) (f : Nat → Int32) : (wX cy ad fad σ).set 0 (ad 0, .inl (cy 0, 60, .inl f)) = wX cy ad fad (uA σ 0 f) := rfl
theorem wX_a1 (cy : Nat → ClassId) (ad fad : Nat → Nat) (σ : St_) (f : Nat → Int32) : (wX cy ad fad σ).set 1 (ad 1, .inl (cy 0, 6, .inl f)) = wX cy ad fad (uA σ 1 f) := rfl
theorem wX_a2 (cy : Nat → ClassId) (ad fad : Nat → Nat) (σ : St_) (f : Nat → Int32) : (wX cy ad fad σ).set 2 (ad 2, .inl (cy 0, 6, .inl f)) = wX cy ad fad (uA σ 2 f) := rfl
theorem wX_a3 (cy : Nat → ClassId) (ad fad : Nat → Nat) (σ : St_) (f : Nat → Int32) : (wX cy ad fad σ).set 3 (ad 3, .inl (cy 0, 10, .inl f)) = wX cy ad fad (uA σ 3 f) := rfl
theorem wX_a4 (cy : Nat → ClassId) (ad fad : Nat → Nat) (σ : St_) (f : Nat → Int32) : (wX cy ad fad σ).set 4 (ad 4, .inl (cy 0, 10, .inl f)) = wX cy ad fad (uA σ 4 f) := rfl
theorem wX_a5 (cy : Nat → ClassId) (ad fad : Nat → Nat) (σ : St_) (f : Nat → Int32) : (wX cy ad fad σ).set 5 (ad 5, .inl (cy 0, 22, .inl f)) = wX cy ad fad (uA σ 5 f) := rfl
theorem wX_a6 (cy : Nat → ClassId) (ad fad : Nat → Nat) (σ : St_) (f : Nat → Int32) : (wX cy ad fad σ).set 6 (ad 6, .inl (cy 0, 22, .inl f)) = wX cy ad fad (uA σ 6 f) := rfl
theorem wX_a7 (cy : Nat → ClassId) (ad fad : Nat → Nat) (σ : St_) (f : Nat → Int32) : (wX cy ad fad σ).set 7 (ad 7, .inl (cy 0, 22, .inl f)) = wX cy ad fad (uA σ 7 f) := rfl
theorem wX_a8 (cy : Nat → ClassId) (ad fad : Nat → Nat) (σ : St_) (f : Nat → Int32) : (wX cy ad fad σ).set 8 (ad 8, .inl (cy 0, 10, .inl f)) = wX cy ad fad (uA σ 8 f) := rfl
theorem wX_a9 (cy : Nat → ClassId) (ad fad : Nat → Nat) (σ : St_) (f : Nat → Int32) : (wX cy ad fad σ).set 9 (ad 9, .inl (cy 0, 10, .inl f)) = wX cy ad fad (uA σ 9 f) := rfl
theorem wX_a10 (cy : Nat → ClassId) (ad fad : Nat → Nat) (σ : St_) (f : Nat → Int32) : (wX cy ad fad σ).set 10 (ad 10, .inl (cy 0, 10, .inl f)) = wX cy ad fad (uA σ 10 f) := rfl
theorem wX_a11 (cy : Nat → ClassId) (ad fad : Nat → Nat) (σ : St_) (f : Nat → Int32) : (wX cy ad fad σ).set 11 (ad 11, .inl (cy 0, 8, .inl f)) = wX cy ad fad (uA σ 11 f) := rfl
theorem wX_a12 (cy : Nat → ClassId) (ad fad : Nat → Nat) (σ : St_) (f : Nat → Int32) : (wX cy ad fad σ).set 12 (ad 12, .inl (cy 0, 10, .inl f)) = wX cy ad fad (uA σ 12 f) := rfl
theorem wX_a13 (cy : Nat → ClassId) (ad fad : Nat → Nat) (σ : St_) (f : Nat → Int32) : (wX cy ad fad σ).set 13 (ad 13, .inl (cy 0, 10, .inl f)) = wX cy ad fad (uA σ 13 f) := rfl
theorem wX_a14 (cy : Nat → ClassId) (ad fad : Nat → Nat) (σ : St_) (f : Nat → Int32) : (wX cy ad fad σ).set 14 (ad 14, .inl (cy 0, 10, .inl f)) = wX cy ad fad (uA σ 14 f) := rfl
theorem wX_a15 (cy : Nat → ClassId) (ad fad : Nat → Nat) (σ : St_) (f : Nat → Int32) : (wX cy ad fad σ).set 15 (ad 15, .inl (cy 0, 10, .inl f)) = wX cy ad fad (uA σ 15 f) := rfl
theorem wX_a16 (cy : Nat → ClassId) (ad fad : Nat → Nat) (σ : St_) (f : Nat → Int32) : (wX cy ad fad σ).set 16 (ad 16, .inl (cy 0, 10, .inl f)) = wX cy ad fad (uA σ 16 f) := rfl
theorem wX_a17 (cy : Nat → ClassId) (ad fad : Nat → Nat) (σ : St_) (f : Nat → Int32) : (wX cy ad fad σ).set 17 (ad 17, .inl (cy 0, 10, .inl f)) = wX cy ad fad (uA σ 17 f) := rfl
theorem wX_a18 (cy : Nat → ClassId) (ad fad : Nat → Nat) (σ : St_) (f : Nat → Int32) : (wX cy ad fad σ).set 18 (ad 18, .inl (cy 0, 10, .inl f)) = wX cy ad fad (uA σ 18 f) := rfl
theorem wX_a19 (cy : Nat → ClassId) (ad fad : Nat → Nat) (σ : St_) (f : Nat → Int32) : (wX cy ad fad σ).set 19 (ad 19, .inl (cy 0, 10, .inl f)) = wX cy ad fad (uA σ 19 f) := rfl
theorem wX_a20 (cy : Nat → ClassId) (ad fad : Nat → Nat) (σ : St_) (f : Nat → Int32) : (wX cy ad fad σ).set 20 (ad 20, .inl (cy 0, 10, .inl f)) = wX cy ad fad (uA σ 20 f) := rfl
theorem wX_a21 (cy : Nat → ClassId) (ad fad : Nat → Nat) (σ : St_) (f : Nat → Int32) : (wX cy ad fad σ).set 21 (ad 21, .inl (cy 0, 10, .inl f)) = wX cy ad fad (uA σ 21 f) := rfl
theorem wX_s0 (cy : Nat → ClassId) (ad fad : Nat → Nat) (σ : St_) (v : Int32) : (wX cy ad fad σ).set 24 (ad 24, .inr (3, [.ref (ad 0), .int (sS σ 0)].set 1 (.int v))) = wX cy ad fad (uS σ 0 v) := rfl
theorem wX_s1 (cy : Nat → ClassId) (ad fad : Nat → Nat) (σ : St_) (v : Int32) : (wX cy ad fad σ).set 25 (ad 25, .inr (2, [.ref (ad 1), .ref (ad 2), .int (sS σ 1)].set 2 (.int v))) = wX cy ad fad (uS σ 1 v) := rfl
theorem wX_s2 (cy : Nat → ClassId) (ad fad : Nat → Nat) (σ : St_) (v : Int32) : (wX cy ad fad σ).set 26 (ad 26, .inr (4, [.ref (ad 3), .ref (ad 4), .ref (ad 22), .int (sS σ 2)].set 3 (.int v))) = wX cy ad fad (uS σ 2 v) := rfl
theorem wX_s3 (cy : Nat → ClassId) (ad fad : Nat → Nat) (σ : St_) (v : Int32) : (wX cy ad fad σ).set 27 (ad 27, .inr (1, [.ref (ad 5), .ref (ad 6), .ref (ad 7), .ref (ad 8), .ref (ad 9), .int (sS σ 3), .int (sS σ 4)].set 5 (.int v))) = wX cy ad fad (uS σ 3 v) := rfl
theorem wX_s4 (cy : Nat → ClassId) (ad fad : Nat → Nat) (σ : St_) (v : Int32) : (wX cy ad fad σ).set 27 (ad 27, .inr (1, [.ref (ad 5), .ref (ad 6), .ref (ad 7), .ref (ad 8), .ref (ad 9), .int (sS σ 3), .int (sS σ 4)].set 6 (.int v))) = wX cy ad fad (uS σ 4 v) := rfl
theorem wX_s5 (cy : Nat → ClassId) (ad fad : Nat → Nat) (σ : St_) (v : Int32) : (wX cy ad fad σ).set 28 (ad 28, .inr (5, [.ref (ad 24), .ref (ad 25), .ref (ad 26), .ref (ad 27), .ref (ad 23), .ref (ad 10), .ref (ad 11), .int (sS σ 5), .int (sS σ 6)].set 7 (.int v))) = wX cy ad fad (uS σ 5 v) := rfl
theorem wX_s6 (cy : Nat → ClassId) (ad fad : Nat → Nat) (σ : St_) (v : Int32) : (wX cy ad fad σ).set 28 (ad 28, .inr (5, [.ref (ad 24), .ref (ad 25), .ref (ad 26), .ref (ad 27), .ref (ad 23), .ref (ad 10), .ref (ad 11), .int (sS σ 5), .int (sS σ 6)].set 8 (.int v))) = wX cy ad fad (uS σ 6 v) := rfl
theorem wX_row (cy : Nat → ClassId) (ad fad : Nat → Nat) (σ : St_) : ∀ j : Nat, j < 10 → (wX cy ad fad σ)[12 + j]? = some (ad (12 + j), .inl (cy 0, 10, .inl (sM σ (12 + j)))) := by
  intro j hj
  match j, hj with
  | 0, _ => rfl
  | 1, _ => rfl
  | 2, _ => rfl
  | 3, _ => rfl
  | 4, _ => rfl
  | 5, _ => rfl
  | 6, _ => rfl
  | 7, _ => rfl
  | 8, _ => rfl
  | 9, _ => rfl
  | j + 10, hj => exact absurd hj (by omega)
theorem wX_rowS (cy : Nat → ClassId) (ad fad : Nat → Nat) (σ : St_) (f : Nat → Int32) : ∀ j : Nat, j < 10 → (wX cy ad fad σ).set (12 + j) (ad (12 + j), .inl (cy 0, 10, .inl f)) = wX cy ad fad (uA σ (12 + j) f) := by
  intro j hj
  match j, hj with
  | 0, _ => rfl
  | 1, _ => rfl
  | 2, _ => rfl
  | 3, _ => rfl
  | 4, _ => rfl
  | 5, _ => rfl
  | 6, _ => rfl
  | 7, _ => rfl
  | 8, _ => rfl
  | 9, _ => rfl
  | j + 10, hj => exact absurd hj (by omega)
theorem wXf_len (cy : Nat → ClassId) (ad fad : Nat → Nat) (σ : St_) : (wXf cy ad fad σ).length = 29 := rfl
theorem wX_farm (cy : Nat → ClassId) (ad fad : Nat → Nat) (σ : St_) {i : Nat} (hi : i < sN σ) : (wX cy ad fad σ)[29 + i]? = some (fad i, .inr (0, fr_ σ i)) := by
  unfold wX
  rw [List.getElem?_append_right (by rw [wXf_len]; omega), wXf_len, Nat.add_sub_cancel_left]
  unfold wXp
  rw [List.getElem?_map, List.getElem?_range hi]
  rfl
theorem wX_farmS (cy : Nat → ClassId) (ad fad : Nat → Nat) (σ : St_) {i : Nat} (hi : i < sN σ) (kf : Nat) (hk : kf < 8) (v : Int32) : (wX cy ad fad σ).set (29 + i) (fad i, .inr (0, (fr_ σ i).set kf (.int v))) = wX cy ad fad (uF σ i kf v) := by
  have h1 : (fr_ σ i).set kf (.int v) = fr_ (uF σ i kf v) i := by
    match kf, hk with
    | 0, _ => simp [fr_, sF_uF]
    | 1, _ => simp [fr_, sF_uF]
    | 2, _ => simp [fr_, sF_uF]
    | 3, _ => simp [fr_, sF_uF]
    | 4, _ => simp [fr_, sF_uF]
    | 5, _ => simp [fr_, sF_uF]
    | 6, _ => simp [fr_, sF_uF]
    | 7, _ => simp [fr_, sF_uF]
    | kf + 8, hk => exact absurd hk (by omega)
  rw [h1]
  unfold wX
  rw [List.set_append_right _ _ (by rw [wXf_len]; omega), wXf_len, Nat.add_sub_cancel_left]
  refine congrArg (fun z => wXf cy ad fad σ ++ z) ?_
  unfold wXp
  apply List.ext_getElem?
  intro j
  rw [List.getElem?_set]
  by_cases hj : j < sN σ
  · have hj2 : j < sN (uF σ i kf v) := hj
    rw [List.getElem?_map, List.getElem?_map, List.getElem?_range hj, List.getElem?_range hj2]
    by_cases hij : i = j
    · subst hij
      simp [hj]
    · rw [if_neg hij]
      have hji : ¬ j = i := fun h => hij h.symm
      simp [fr_, sF_uF, hji]
  · have hj2 : ¬ j < sN (uF σ i kf v) := hj
    have hij : ¬ i = j := fun h => hj (by omega)
    rw [if_neg hij]
    rw [List.getElem?_eq_none (by simp; omega), List.getElem?_eq_none (by simp; omega)]
/-- THE REFERENCE'S WORLD -/
def wM (cy : Nat → ClassId) (ad : Nat → Nat) (σ : St_) : va_W := [(ad 0, .inl (cy 2, 60, .inl (sM σ 0))), (ad 5, .inl (cy 0, 6, .inl (sM σ 5))), (ad 6, .inl (cy 0, 6, .inl (sM σ 6))), (ad 7, .inl (cy 0, 10, .inl (sM σ 7))), (ad 8, .inl (cy 0, 10, .inl (sM σ 8))), (ad 9, .inl (cy 0, 8, .inl (sM σ 9))), (ad 10, .inl (cy 1, 10, .inl (sM σ 10))), (ad 11, .inl (cy 0, 10, .inl (sM σ 11))), (ad 12, .inl (cy 0, 10, .inl (sM σ 12))), (ad 13, .inl (cy 0, 10, .inl (sM σ 13))), (ad 14, .inl (cy 0, 10, .inl (sM σ 14))), (ad 15, .inl (cy 0, 10, .inl (sM σ 15))), (ad 16, .inl (cy 1, 100, .inl (sM σ 16))), (ad 17, .inl (cy 1, 100, .inl (sM σ 17))), (ad 18, .inl (cy 1, 100, .inl (sM σ 18))), (ad 19, .inl (cy 0, 100, .inl (sM σ 19))), (ad 20, .inl (cy 1, 100, .inl (sM σ 20))), (ad 21, .inl (cy 1, 100, .inl (sM σ 21))), (ad 22, .inl (cy 1, 100, .inl (sM σ 22))), (ad 23, .inl (cy 0, 10, .inl (sM σ 23))), (ad 24, .inl (cy 0, 10, .inl (sM σ 24))), (ad 25, .inl (cy 0, 10, .inl (sM σ 25))), (ad 26, .inl (cy 0, 10, .inl (sM σ 26))), (ad 27, .inl (cy 0, 20, .inl (sM σ 27))), (ad 28, .inl (cy 0, 10, .inl (sM σ 28))), (ad 29, .inr (6, [.ref (ad 0), .int (sS σ 1), .int (sS σ 2), .int (sS σ 3), .int (sS σ 4), .ref (ad 5), .ref (ad 6), .ref (ad 7), .ref (ad 8), .ref (ad 9), .ref (ad 10), .ref (ad 11), .ref (ad 12), .ref (ad 13), .ref (ad 14), .ref (ad 15), .ref (ad 16), .ref (ad 17), .ref (ad 18), .ref (ad 19), .ref (ad 20), .ref (ad 21), .ref (ad 22), .ref (ad 23), .ref (ad 24), .ref (ad 25), .ref (ad 26), .ref (ad 27), .ref (ad 28)]))]
theorem wM_a0 (cy : Nat → ClassId) (ad : Nat → Nat) (σ : St_) (f : Nat → Int32) : (wM cy ad σ).set 0 (ad 0, .inl (cy 2, 60, .inl f)) = wM cy ad (uA σ 0 f) := rfl
theorem wM_a5 (cy : Nat → ClassId) (ad : Nat → Nat) (σ : St_) (f : Nat → Int32) : (wM cy ad σ).set 1 (ad 5, .inl (cy 0, 6, .inl f)) = wM cy ad (uA σ 5 f) := rfl
theorem wM_a6 (cy : Nat → ClassId) (ad : Nat → Nat) (σ : St_) (f : Nat → Int32) : (wM cy ad σ).set 2 (ad 6, .inl (cy 0, 6, .inl f)) = wM cy ad (uA σ 6 f) := rfl
theorem wM_a7 (cy : Nat → ClassId) (ad : Nat → Nat) (σ : St_) (f : Nat → Int32) : (wM cy ad σ).set 3 (ad 7, .inl (cy 0, 10, .inl f)) = wM cy ad (uA σ 7 f) := rfl
theorem wM_a8 (cy : Nat → ClassId) (ad : Nat → Nat) (σ : St_) (f : Nat → Int32) : (wM cy ad σ).set 4 (ad 8, .inl (cy 0, 10, .inl f)) = wM cy ad (uA σ 8 f) := rfl
theorem wM_a9 (cy : Nat → ClassId) (ad : Nat → Nat) (σ : St_) (f : Nat → Int32) : (wM cy ad σ).set 5 (ad 9, .inl (cy 0, 8, .inl f)) = wM cy ad (uA σ 9 f) := rfl
theorem wM_a10 (cy : Nat → ClassId) (ad : Nat → Nat) (σ : St_) (f : Nat → Int32) : (wM cy ad σ).set 6 (ad 10, .inl (cy 1, 10, .inl f)) = wM cy ad (uA σ 10 f) := rfl
theorem wM_a11 (cy : Nat → ClassId) (ad : Nat → Nat) (σ : St_) (f : Nat → Int32) : (wM cy ad σ).set 7 (ad 11, .inl (cy 0, 10, .inl f)) = wM cy ad (uA σ 11 f) := rfl
theorem wM_a12 (cy : Nat → ClassId) (ad : Nat → Nat) (σ : St_) (f : Nat → Int32) : (wM cy ad σ).set 8 (ad 12, .inl (cy 0, 10, .inl f)) = wM cy ad (uA σ 12 f) := rfl
theorem wM_a13 (cy : Nat → ClassId) (ad : Nat → Nat) (σ : St_) (f : Nat → Int32) : (wM cy ad σ).set 9 (ad 13, .inl (cy 0, 10, .inl f)) = wM cy ad (uA σ 13 f) := rfl
theorem wM_a14 (cy : Nat → ClassId) (ad : Nat → Nat) (σ : St_) (f : Nat → Int32) : (wM cy ad σ).set 10 (ad 14, .inl (cy 0, 10, .inl f)) = wM cy ad (uA σ 14 f) := rfl
theorem wM_a15 (cy : Nat → ClassId) (ad : Nat → Nat) (σ : St_) (f : Nat → Int32) : (wM cy ad σ).set 11 (ad 15, .inl (cy 0, 10, .inl f)) = wM cy ad (uA σ 15 f) := rfl
theorem wM_a16 (cy : Nat → ClassId) (ad : Nat → Nat) (σ : St_) (f : Nat → Int32) : (wM cy ad σ).set 12 (ad 16, .inl (cy 1, 100, .inl f)) = wM cy ad (uA σ 16 f) := rfl
theorem wM_a17 (cy : Nat → ClassId) (ad : Nat → Nat) (σ : St_) (f : Nat → Int32) : (wM cy ad σ).set 13 (ad 17, .inl (cy 1, 100, .inl f)) = wM cy ad (uA σ 17 f) := rfl
theorem wM_a18 (cy : Nat → ClassId) (ad : Nat → Nat) (σ : St_) (f : Nat → Int32) : (wM cy ad σ).set 14 (ad 18, .inl (cy 1, 100, .inl f)) = wM cy ad (uA σ 18 f) := rfl
theorem wM_a19 (cy : Nat → ClassId) (ad : Nat → Nat) (σ : St_) (f : Nat → Int32) : (wM cy ad σ).set 15 (ad 19, .inl (cy 0, 100, .inl f)) = wM cy ad (uA σ 19 f) := rfl
theorem wM_a20 (cy : Nat → ClassId) (ad : Nat → Nat) (σ : St_) (f : Nat → Int32) : (wM cy ad σ).set 16 (ad 20, .inl (cy 1, 100, .inl f)) = wM cy ad (uA σ 20 f) := rfl
theorem wM_a21 (cy : Nat → ClassId) (ad : Nat → Nat) (σ : St_) (f : Nat → Int32) : (wM cy ad σ).set 17 (ad 21, .inl (cy 1, 100, .inl f)) = wM cy ad (uA σ 21 f) := rfl
theorem wM_a22 (cy : Nat → ClassId) (ad : Nat → Nat) (σ : St_) (f : Nat → Int32) : (wM cy ad σ).set 18 (ad 22, .inl (cy 1, 100, .inl f)) = wM cy ad (uA σ 22 f) := rfl
theorem wM_a23 (cy : Nat → ClassId) (ad : Nat → Nat) (σ : St_) (f : Nat → Int32) : (wM cy ad σ).set 19 (ad 23, .inl (cy 0, 10, .inl f)) = wM cy ad (uA σ 23 f) := rfl
theorem wM_a24 (cy : Nat → ClassId) (ad : Nat → Nat) (σ : St_) (f : Nat → Int32) : (wM cy ad σ).set 20 (ad 24, .inl (cy 0, 10, .inl f)) = wM cy ad (uA σ 24 f) := rfl
theorem wM_a25 (cy : Nat → ClassId) (ad : Nat → Nat) (σ : St_) (f : Nat → Int32) : (wM cy ad σ).set 21 (ad 25, .inl (cy 0, 10, .inl f)) = wM cy ad (uA σ 25 f) := rfl
theorem wM_a26 (cy : Nat → ClassId) (ad : Nat → Nat) (σ : St_) (f : Nat → Int32) : (wM cy ad σ).set 22 (ad 26, .inl (cy 0, 10, .inl f)) = wM cy ad (uA σ 26 f) := rfl
theorem wM_a27 (cy : Nat → ClassId) (ad : Nat → Nat) (σ : St_) (f : Nat → Int32) : (wM cy ad σ).set 23 (ad 27, .inl (cy 0, 20, .inl f)) = wM cy ad (uA σ 27 f) := rfl
theorem wM_a28 (cy : Nat → ClassId) (ad : Nat → Nat) (σ : St_) (f : Nat → Int32) : (wM cy ad σ).set 24 (ad 28, .inl (cy 0, 10, .inl f)) = wM cy ad (uA σ 28 f) := rfl
theorem wM_s1 (cy : Nat → ClassId) (ad : Nat → Nat) (σ : St_) (v : Int32) : (wM cy ad σ).set 25 (ad 29, .inr (6, [.ref (ad 0), .int (sS σ 1), .int (sS σ 2), .int (sS σ 3), .int (sS σ 4), .ref (ad 5), .ref (ad 6), .ref (ad 7), .ref (ad 8), .ref (ad 9), .ref (ad 10), .ref (ad 11), .ref (ad 12), .ref (ad 13), .ref (ad 14), .ref (ad 15), .ref (ad 16), .ref (ad 17), .ref (ad 18), .ref (ad 19), .ref (ad 20), .ref (ad 21), .ref (ad 22), .ref (ad 23), .ref (ad 24), .ref (ad 25), .ref (ad 26), .ref (ad 27), .ref (ad 28)].set 1 (.int v))) = wM cy ad (uS σ 1 v) := rfl
theorem wM_s2 (cy : Nat → ClassId) (ad : Nat → Nat) (σ : St_) (v : Int32) : (wM cy ad σ).set 25 (ad 29, .inr (6, [.ref (ad 0), .int (sS σ 1), .int (sS σ 2), .int (sS σ 3), .int (sS σ 4), .ref (ad 5), .ref (ad 6), .ref (ad 7), .ref (ad 8), .ref (ad 9), .ref (ad 10), .ref (ad 11), .ref (ad 12), .ref (ad 13), .ref (ad 14), .ref (ad 15), .ref (ad 16), .ref (ad 17), .ref (ad 18), .ref (ad 19), .ref (ad 20), .ref (ad 21), .ref (ad 22), .ref (ad 23), .ref (ad 24), .ref (ad 25), .ref (ad 26), .ref (ad 27), .ref (ad 28)].set 2 (.int v))) = wM cy ad (uS σ 2 v) := rfl
theorem wM_s3 (cy : Nat → ClassId) (ad : Nat → Nat) (σ : St_) (v : Int32) : (wM cy ad σ).set 25 (ad 29, .inr (6, [.ref (ad 0), .int (sS σ 1), .int (sS σ 2), .int (sS σ 3), .int (sS σ 4), .ref (ad 5), .ref (ad 6), .ref (ad 7), .ref (ad 8), .ref (ad 9), .ref (ad 10), .ref (ad 11), .ref (ad 12), .ref (ad 13), .ref (ad 14), .ref (ad 15), .ref (ad 16), .ref (ad 17), .ref (ad 18), .ref (ad 19), .ref (ad 20), .ref (ad 21), .ref (ad 22), .ref (ad 23), .ref (ad 24), .ref (ad 25), .ref (ad 26), .ref (ad 27), .ref (ad 28)].set 3 (.int v))) = wM cy ad (uS σ 3 v) := rfl
theorem wM_s4 (cy : Nat → ClassId) (ad : Nat → Nat) (σ : St_) (v : Int32) : (wM cy ad σ).set 25 (ad 29, .inr (6, [.ref (ad 0), .int (sS σ 1), .int (sS σ 2), .int (sS σ 3), .int (sS σ 4), .ref (ad 5), .ref (ad 6), .ref (ad 7), .ref (ad 8), .ref (ad 9), .ref (ad 10), .ref (ad 11), .ref (ad 12), .ref (ad 13), .ref (ad 14), .ref (ad 15), .ref (ad 16), .ref (ad 17), .ref (ad 18), .ref (ad 19), .ref (ad 20), .ref (ad 21), .ref (ad 22), .ref (ad 23), .ref (ad 24), .ref (ad 25), .ref (ad 26), .ref (ad 27), .ref (ad 28)].set 4 (.int v))) = wM cy ad (uS σ 4 v) := rfl
end
