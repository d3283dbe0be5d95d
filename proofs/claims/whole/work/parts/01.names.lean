/-! ===== BEGIN words of one list among another's, by their places ===== -/
theorem goodIn_r {big : List Cond} (ws : List Cond) (ps : List Nat) (hp : ws = ps.filterMap (fun i => big[i]?)) (h : ws.all goodWord = true) : GoodIn big ws := by
  intro w hw
  have h1 := List.all_eq_true.mp h w hw
  rw [hp] at hw
  obtain ⟨i, -, hi⟩ := List.mem_filterMap.mp hw
  have hm : w ∈ big := by first | exact List.mem_of_getElem? hi | exact List.getElem?_mem hi
  exact ⟨hm, good_of_word h1⟩
theorem goodIn_app {big a b : List Cond} (ha : GoodIn big a) (hb : GoodIn big b) : GoodIn big (a ++ b) := fun w h => (List.mem_append.mp h).elim (ha w) (hb w)
theorem goodIn_ca {big a b : List Cond} {c : Cond} (ha : GoodIn big (c :: a)) (hb : GoodIn big b) : GoodIn big (c :: (a ++ b)) := fun w h => (List.mem_cons.mp h).elim (fun e => ha w (List.mem_cons.mpr (Or.inl e))) (fun h => (List.mem_append.mp h).elim (fun h => ha w (List.mem_cons.mpr (Or.inr h))) (hb w))
theorem goodIn_sub {big ws : List Cond} (hm : ∀ w ∈ ws, w ∈ big) (h : ws.all goodWord = true) : GoodIn big ws := fun w hw => ⟨hm w hw, good_of_word (List.all_eq_true.mp h w hw)⟩
/-! ===== END ===== -/

/-! ===== BEGIN new T[n][m]: the outer array a place, the inner ones among the pooled ===== -/
/-- f, but v at every address of l -/
def vr_up {α : Type} (f : Nat → α) (l : List Nat) (v : α) : Nat → α := fun a => if a ∈ l then v else f a
theorem vr_up_in {α : Type} {f : Nat → α} {l : List Nat} {v : α} {a : Nat} (h : a ∈ l) : vr_up f l v a = v := if_pos h
theorem vr_up_ne {α : Type} {f : Nat → α} {l : List Nat} {v : α} {a : Nat} (h : a ∉ l) : vr_up f l v a = f a := if_neg h
theorem vr_rows {L l : List Nat} {f : Nat → va_E} {e : va_E} (h : ∀ a, a ∈ l → a ∉ L) : va_pl L f ++ l.map (fun a => (a, e)) = va_pl (L ++ l) (vr_up f l e) := by
  unfold va_pl
  rw [List.map_append]
  congr 1
  · apply List.map_congr_left
    intro a ha
    rw [vr_up_ne (fun q => h a q ha)]
  · apply List.map_congr_left
    intro a ha
    rw [vr_up_in ha]
theorem vr_lay {X rows : va_W} {x : Nat × va_E} {pl : va_W} {D : va_G} {cl : List vw_C} {H : Heap} (hP : va_P D cl (((X ++ pl) ++ [x]) ++ rows) H) : va_P D cl ((X ++ [x]) ++ (pl ++ rows)) H := by
  rw [List.append_assoc (X ++ pl)] at hP
  have h := va_P.swap hP
  rw [← List.append_assoc X] at h
  have h2 := va_P.swap h
  rw [List.append_assoc (X ++ [x])] at h2
  exact h2
theorem vr_layD {X rows : va_W} {x : Nat × va_E} {pl : va_W} {A : Nat → Prop} (hD : va_D A (((X ++ pl) ++ [x]) ++ rows)) : va_D A ((X ++ [x]) ++ (pl ++ rows)) := by
  rw [List.append_assoc (X ++ pl)] at hD
  have h := va_D.swap hD
  rw [← List.append_assoc X] at h
  have h2 := va_D.swap h
  rw [List.append_assoc (X ++ [x])] at h2
  exact h2
theorem vr_outer (c : ClassId) (N h0 : Nat) : ∀ i : Nat, Jvm.Free.Multi.outerC c N h0 i = arrV c N (fun j => va_rf (if j < i then some (h0 + 1 + j) else none))
  | 0 => by
    show ({ cls := c, slots := Array.replicate N .null, vm := .none } : Cell) = _
    rw [arrV_new]
    refine congrArg (arrV c N) (funext fun j => ?_)
    simp [va_rf]
  | i + 1 => by
    show (Jvm.Free.Multi.outerC c N h0 i).setSlot i (.ref (h0 + 1 + i)) = _
    rw [vr_outer c N h0 i, arrV_store]
    refine congrArg (arrV c N) (funext fun j => ?_)
    by_cases e : j = i
    · subst e
      simp [updV, va_rf]
    · by_cases h : j < i
      · simp [updV, e, h, Nat.lt_succ_of_lt h]
      · simp [updV, e, h, show ¬ j < i + 1 by omega]
section VGM
variable {p : Program} {l : Launch} {e : Env} {R : Room} {s : State} {m : MethodId} {args : Array Value} {below : List Frame} {meth : Method} {c : Code} {H : Heap} {locs : List Loc} {cells slots : Nat} {Q : State → Prop}
variable {cc : ByteArray} {pc : Nat} {ls : Array Slot} {rest : List Value} {D : va_G} {cl : List vw_C} {A : Nat → Prop} {a : Nat} {tys : List (ClassId × FieldType)} {ws : va_W} {H0 : Heap}
theorem va_mna {X : va_W} {L : List Nat} {f : Nat → va_E} {cc : ByteArray} (hexec : p.tables.exec = Jvm.exec) (hb : c.code = cc) {own : String} {index : Nat} {ty : FieldType} {cy : ClassId} (hown : s.vm.findClass own = some m.cls) (hclink : (Cond.classLink own index ("[" ++ (FieldType.array ty).toString)).before args s = true) (hover : va_AOA ty s) (harr : (Cond.arrayClass ty).before args s = true) (hcy : s.vm.findClass (FieldType.array ty).toString = some cy)
    (hK : va_K D cl tys s) (hP : va_P D cl (X ++ va_pl L f) H) (hD : va_D A (X ++ va_pl L f)) (hS : va_S A H0 H locs) (hA : ∀ q, H0.size ≤ q → A q) {n k : Int32} {N' K' : Nat} {z : vp_A} (hn : ¬ n < 0) (hk : ¬ k < 0) (hN : n.toNatClampNeg = N') (hM : k.toNatClampNeg = K')
    (hb1 : N' * 4 ≤ 536870912) (hb2 : K' * componentBytes ty ≤ 536870912) (hb3 : K' ≤ 536870912) (hdf : fits ty (defaultValue ty) = true) (hdd : (defaultValue ty).isDefault = true) (hcells : cells + (1 + N') ≤ R.cells) (hslots : slots + (N' + N' * K') ≤ R.slots) (hz : ∀ c : ClassId, Jvm.Free.Multi.innerC c K' (defaultValue ty) = vp_cell c z) (hdg : decode cc pc = .ok (.multianewarray index 2, 4))
    (kk : ∀ (q : Nat) (r : Nat → Nat) (cA : ClassId) (H1 : Heap), (∀ i j : Nat, i < N' → j < N' → r i = r j → i = j) → (∀ i : Nat, i < N' → r i ∉ L) → va_K D cl (tys ++ [(cA, .array ty)]) s →
      va_P D cl ((X ++ [(q, .inl (cA, N', .inr (.inr (.inr (.inr (fun i => if i < N' then some (r i) else none))))))]) ++ va_pl (L ++ (List.range N').map r) (vr_up f ((List.range N').map r) (.inl (cy, z)))) H1 → va_D A ((X ++ [(q, .inl (cA, N', .inr (.inr (.inr (.inr (fun i => if i < N' then some (r i) else none))))))]) ++ va_pl (L ++ (List.range N').map r) (vr_up f ((List.range N').map r) (.inl (cy, z)))) → va_S A H0 H1 locs →
      W p l e R s m args below meth c H1 locs (cells + 1 + N') (slots + N' + N' * K') Q (F0 m (pc + 4) ls (.ref q :: rest))) : W p l e R s m args below meth c H locs cells slots Q (F0 m pc ls (.int k :: .int n :: rest)) := by
  subst hN
  subst hM
  intro T hT Xs
  obtain ⟨vm₁, cA, comp, -, fA, fC, hO, -, X', step⟩ := Xs.multianewarray2F hexec hown hclink (va_AOA.use hover) harr (g := F0 m pc ls (.int k :: .int n :: rest)) rfl (by rw [hb]; exact hdg) rfl hn hk hb1 hb2 hb3 hdf hdd hcells hslots
  have ec : some cy = some comp := hcy.symm.trans fC
  cases ec
  generalize hF : Jvm.Free.Multi.fill (T.setVm vm₁) cA cy n.toNatClampNeg k.toNatClampNeg (defaultValue ty) n.toNatClampNeg = F at X' step
  have hTh : (T.setVm vm₁).heap = H := hT
  obtain ⟨f1, f2, -, -⟩ := Jvm.Free.Multi.fill_facts (T.setVm vm₁) cA cy n.toNatClampNeg k.toNatClampNeg (defaultValue ty) n.toNatClampNeg
  rw [hF, hTh] at f1 f2
  have hold : ∀ x : Nat, x < H.size → F.heap[x]? = H[x]? := fun x hx => by
    have := Jvm.Free.Multi.fill_old (T.setVm vm₁) cA cy n.toNatClampNeg k.toNatClampNeg (defaultValue ty) (a := x) (by rw [hTh]; exact hx) n.toNatClampNeg
    rw [hF, hTh] at this
    exact this
  have hrow : ∀ j : Nat, j < n.toNatClampNeg → F.heap[H.size + 1 + j]? = some (vp_cell cy z) := fun j hj => by
    have := Jvm.Free.Multi.fill_inner (T.setVm vm₁) cA cy n.toNatClampNeg k.toNatClampNeg (defaultValue ty) n.toNatClampNeg j hj
    rw [hF, hTh, hz] at this
    exact this
  have hout : Jvm.Free.Multi.outerC cA n.toNatClampNeg H.size n.toNatClampNeg = vp_cell cA (n.toNatClampNeg, .inr (.inr (.inr (.inr (fun i => if i < n.toNatClampNeg then some (H.size + 1 + i) else none))))) := by
    rw [vp_cell_q]
    exact vr_outer cA n.toNatClampNeg H.size n.toNatClampNeg
  rw [hout] at f2
  have hlt : ∀ a, a ∈ L → a < H.size := fun a ha => by
    obtain ⟨k9, hk9⟩ := va_pl_get (X := X) (f := f) ha
    exact (hP k9 _ hk9).lt
  have hnl : ∀ i : Nat, i < n.toNatClampNeg → H.size + 1 + i ∉ L := fun i _ h => by
    have := hlt _ h
    omega
  have hnm : ∀ a, a ∈ (List.range n.toNatClampNeg).map (fun i => H.size + 1 + i) → a ∉ L := fun a ha h => by
    obtain ⟨i, -, rfl⟩ := List.mem_map.mp ha
    have := hlt _ h
    omega
  have hP0 : va_P D cl (X ++ va_pl L f) F.heap := hP.kept (fun k9 x hx => hold x.1 ((hP k9 x hx).lt))
  have hP1 : va_P D cl ((X ++ va_pl L f) ++ [(H.size, .inl (cA, n.toNatClampNeg, .inr (.inr (.inr (.inr (fun i => if i < n.toNatClampNeg then some (H.size + 1 + i) else none))))))]) F.heap := hP0.app (fun k9 x hx => by
    have h0 : k9 < 1 := (List.getElem?_eq_some_iff.mp hx).1
    rw [show k9 = 0 by omega] at hx
    cases hx
    exact f2)
  have hP2 : va_P D cl (((X ++ va_pl L f) ++ [(H.size, .inl (cA, n.toNatClampNeg, .inr (.inr (.inr (.inr (fun i => if i < n.toNatClampNeg then some (H.size + 1 + i) else none))))))]) ++ ((List.range n.toNatClampNeg).map (fun i => H.size + 1 + i)).map (fun a => (a, .inl (cy, z)))) F.heap := hP1.app (fun k9 x hx => by
    obtain ⟨a, ha, rfl⟩ := List.mem_map.mp (List.mem_of_getElem? hx)
    obtain ⟨i, hi, rfl⟩ := List.mem_map.mp ha
    exact hrow i (List.mem_range.mp hi))
  have hD2 : va_D A (((X ++ va_pl L f) ++ [(H.size, .inl (cA, n.toNatClampNeg, .inr (.inr (.inr (.inr (fun i => if i < n.toNatClampNeg then some (H.size + 1 + i) else none))))))]) ++ ((List.range n.toNatClampNeg).map (fun i => H.size + 1 + i)).map (fun a => (a, .inl (cy, z)))) := by
    have hD1 := hD.push (e := .inl (cA, n.toNatClampNeg, .inr (.inr (.inr (.inr (fun i => if i < n.toNatClampNeg then some (H.size + 1 + i) else none)))))) hP rfl (hA _ hS.1)
    generalize hW1 : (X ++ va_pl L f) ++ [(H.size, .inl (cA, n.toNatClampNeg, .inr (.inr (.inr (.inr (fun i => if i < n.toNatClampNeg then some (H.size + 1 + i) else none))))))] = W1 at hD1 hP1 ⊢
    have hle : ∀ (k9 : Nat) (x : Nat × va_E), W1[k9]? = some x → x.1 ≤ H.size := fun k9 x hx => by
      rw [← hW1] at hx
      by_cases hl : k9 < (X ++ va_pl L f).length
      · rw [List.getElem?_append_left hl] at hx
        exact Nat.le_of_lt ((hP k9 x hx).lt)
      · rw [List.getElem?_append_right (by omega)] at hx
        have h0 : k9 - (X ++ va_pl L f).length < 1 := (List.getElem?_eq_some_iff.mp hx).1
        rw [show k9 - (X ++ va_pl L f).length = 0 by omega] at hx
        cases hx
        exact Nat.le_refl _
    have hr : ∀ (k9 : Nat) (x : Nat × va_E), (((List.range n.toNatClampNeg).map (fun i => H.size + 1 + i)).map (fun a => ((a, .inl (cy, z)) : Nat × va_E)))[k9]? = some x → x.1 = H.size + 1 + k9 := fun k9 x hx => by
      rw [List.getElem?_map, List.getElem?_map] at hx
      by_cases h9 : k9 < n.toNatClampNeg
      · rw [List.getElem?_range h9] at hx
        cases hx
        rfl
      · have hn0 : (List.range n.toNatClampNeg)[k9]? = none := List.getElem?_eq_none (by rw [List.length_range]; omega)
        rw [hn0] at hx
        cases hx
    refine ⟨fun i j x y hi hj hxy => ?_, fun k9 x hx => ?_⟩
    · by_cases h1 : i < W1.length <;> by_cases h2 : j < W1.length
      · rw [List.getElem?_append_left h1] at hi
        rw [List.getElem?_append_left h2] at hj
        exact hD1.1 i j x y hi hj hxy
      · rw [List.getElem?_append_left h1] at hi
        rw [List.getElem?_append_right (by omega)] at hj
        have := hle _ _ hi
        have := hr _ _ hj
        omega
      · rw [List.getElem?_append_right (by omega)] at hi
        rw [List.getElem?_append_left h2] at hj
        have := hle _ _ hj
        have := hr _ _ hi
        omega
      · rw [List.getElem?_append_right (by omega)] at hi hj
        have := hr _ _ hi
        have := hr _ _ hj
        omega
    · by_cases h1 : k9 < W1.length
      · rw [List.getElem?_append_left h1] at hx
        exact hD1.2 k9 x hx
      · rw [List.getElem?_append_right (by omega)] at hx
        have := hr _ _ hx
        exact hA _ (by have := hS.1; omega)
  have hAr : ArrOfT s cA (.array ty) := fun N9 z9 => by
    obtain ⟨-, k9, hk9, cm9, hkk9⟩ := (hO 0 0 0).1
    exact ⟨(fun q hq => by cases hq), k9, hk9, cm9, hkk9⟩
  have hK2 : va_K D cl (tys ++ [(cA, .array ty)]) s := ⟨hK.1, fun k9 x hx => by
    by_cases hl : k9 < tys.length
    · rw [List.getElem?_append_left hl] at hx
      exact hK.2 k9 x hx
    · rw [List.getElem?_append_right (by omega)] at hx
      have h0 : k9 - tys.length < 1 := (List.getElem?_eq_some_iff.mp hx).1
      rw [show k9 - tys.length = 0 by omega] at hx
      cases hx
      exact ⟨hAr, fA⟩⟩
  obtain ⟨t, a1, b1⟩ := kk H.size (fun i => H.size + 1 + i) cA F.heap (fun i j _ _ h => by have h9 : H.size + 1 + i = H.size + 1 + j := h; omega) hnl hK2 (by rw [← vr_rows hnm]; exact vr_lay hP2) (by rw [← vr_rows hnm]; exact vr_layD hD2) ⟨by rw [f1]; have := hS.1; omega, fun x h1 h2 => (hold x (Nat.lt_of_lt_of_le h1 hS.1)).trans (hS.2.1 x h1 h2), hS.2.2⟩ F rfl X'
  refine ⟨t, step t ?_, b1⟩
  have e : T.heap.size = H.size := by rw [hT]
  rw [e]
  exact a1
end VGM
/-! ===== END ===== -/

/-! ===== BEGIN printed: names, fields, word lists, decode rows ===== -/
def RX0 : String := "PeerCircle$Farm"
def TX0 : u_T := fun k => match k with
  | 0 => ("PeerCircle$Farm", "family", "I", true)
  | 1 => ("PeerCircle$Farm", "group", "I", true)
  | 2 => ("PeerCircle$Farm", "hasSeal", "Z", false)
  | 3 => ("PeerCircle$Farm", "step", "I", false)
  | 4 => ("PeerCircle$Farm", "yearsOut", "I", false)
  | 5 => ("PeerCircle$Farm", "soldEver", "I", false)
  | 6 => ("PeerCircle$Farm", "soldThisYear", "I", false)
  | _ => ("PeerCircle$Farm", "doubtful", "I", false)
def tyX0 : Nat → FieldType := fun k => match k with
  | 0 => .int
  | 1 => .int
  | 2 => .boolean
  | 3 => .int
  | 4 => .int
  | 5 => .int
  | 6 => .int
  | _ => .int
abbrev wsX00 : List Cond := u_ws RX0 TX0 8
theorem nmX0 : ∀ a, a < 8 → ∀ b, b < 8 → a ≠ b → (TX0 a).2.1 ≠ (TX0 b).2.1 := by decide +kernel
theorem tyX0_ok : ∀ k, k < 8 → parseFieldDescriptor (TX0 k).2.2.1 = some (tyX0 k) := by decide +kernel
abbrev cX0_init : ByteArray := prog_2_method_1_code
def yX0_init : MethodName := ⟨RX0, "<init>", "(II)V"⟩
abbrev cX0_isOut : ByteArray := prog_2_method_2_code
def yX0_isOut : MethodName := ⟨RX0, "isOut", "()Z"⟩
abbrev cX0_sellBaskets : ByteArray := prog_2_method_3_code
def yX0_sellBaskets : MethodName := ⟨RX0, "sellBaskets", "(I)V"⟩
abbrev cX0_countDoubtful : ByteArray := prog_2_method_4_code
def yX0_countDoubtful : MethodName := ⟨RX0, "countDoubtful", "(Z)V"⟩
abbrev cX0_goOn : ByteArray := prog_2_method_5_code
def yX0_goOn : MethodName := ⟨RX0, "goOn", "(IILPeerCircle$Rules;)V"⟩
abbrev cX0_changeStep : ByteArray := prog_2_method_6_code
def yX0_changeStep : MethodName := ⟨RX0, "changeStep", "(ILPeerCircle$Rules;)V"⟩
def RX1 : String := "PeerCircle$Planner"
def TX1 : u_T := fun k => match k with
  | 0 => ("PeerCircle$Planner", "ways", "[I", true)
  | 1 => ("PeerCircle$Planner", "cameFrom", "[I", true)
  | 2 => ("PeerCircle$Planner", "queue", "[I", true)
  | 3 => ("PeerCircle$Planner", "visitors", "[I", true)
  | 4 => ("PeerCircle$Planner", "visitsMade", "[I", true)
  | 5 => ("PeerCircle$Planner", "mostVisitors", "I", false)
  | _ => ("PeerCircle$Planner", "mostVisits", "I", false)
def tyX1 : Nat → FieldType := fun k => match k with
  | 0 => .array .int
  | 1 => .array .int
  | 2 => .array .int
  | 3 => .array .int
  | 4 => .array .int
  | 5 => .int
  | _ => .int
abbrev wsX10 : List Cond := u_ws RX1 TX1 7
theorem nmX1 : ∀ a, a < 7 → ∀ b, b < 7 → a ≠ b → (TX1 a).2.1 ≠ (TX1 b).2.1 := by decide +kernel
theorem tyX1_ok : ∀ k, k < 7 → parseFieldDescriptor (TX1 k).2.2.1 = some (tyX1 k) := by decide +kernel
abbrev cX1_init : ByteArray := prog_3_method_1_code
def yX1_init : MethodName := ⟨RX1, "<init>", "()V"⟩
abbrev cX1_visitorsOf : ByteArray := prog_3_method_2_code
def yX1_visitorsOf : MethodName := ⟨RX1, "visitorsOf", "(I)I"⟩
abbrev cX1_begin : ByteArray := prog_3_method_3_code
def yX1_begin : MethodName := ⟨RX1, "begin", "(II)V"⟩
abbrev cX1_allow : ByteArray := prog_3_method_4_code
def yX1_allow : MethodName := ⟨RX1, "allow", "(II)V"⟩
abbrev cX1_planMost : ByteArray := prog_3_method_5_code
def yX1_planMost : MethodName := ⟨RX1, "planMost", "()V"⟩
abbrev cX1_planLeastRow : ByteArray := prog_3_method_6_code
def yX1_planLeastRow : MethodName := ⟨RX1, "planLeastRow", "(I)V"⟩
abbrev cX1_placeVisited : ByteArray := prog_3_method_7_code
def yX1_placeVisited : MethodName := ⟨RX1, "placeVisited", "(I)I"⟩
abbrev cX1_setWay : ByteArray := prog_3_method_8_code
def yX1_setWay : MethodName := ⟨RX1, "setWay", "(IIZ)V"⟩
abbrev cX1_openByLimits : ByteArray := prog_3_method_9_code
def yX1_openByLimits : MethodName := ⟨RX1, "openByLimits", "(II)V"⟩
abbrev cX1_addVisit : ByteArray := prog_3_method_10_code
def yX1_addVisit : MethodName := ⟨RX1, "addVisit", "(II)V"⟩
abbrev cX1_dropVisit : ByteArray := prog_3_method_11_code
def yX1_dropVisit : MethodName := ⟨RX1, "dropVisit", "(II)V"⟩
abbrev cX1_findPath : ByteArray := prog_3_method_12_code
def yX1_findPath : MethodName := ⟨RX1, "findPath", "(II)Z"⟩
abbrev cX1_lowestBit : ByteArray := prog_3_method_13_code
def yX1_lowestBit : MethodName := ⟨RX1, "lowestBit", "(I)I"⟩
abbrev cX1_followPath : ByteArray := prog_3_method_14_code
def yX1_followPath : MethodName := ⟨RX1, "followPath", "(II)V"⟩
abbrev cX1_moveVisit : ByteArray := prog_3_method_15_code
def yX1_moveVisit : MethodName := ⟨RX1, "moveVisit", "(II)V"⟩
def RX2 : String := "PeerCircle$Rules"
def TX2 : u_T := fun k => match k with
  | 0 => ("PeerCircle$Rules", "numbers", "[I", true)
  | 1 => ("PeerCircle$Rules", "draft", "[I", true)
  | _ => ("PeerCircle$Rules", "place", "I", false)
def tyX2 : Nat → FieldType := fun k => match k with
  | 0 => .array .int
  | 1 => .array .int
  | _ => .int
abbrev wsX20 : List Cond := u_ws RX2 TX2 3
theorem nmX2 : ∀ a, a < 3 → ∀ b, b < 3 → a ≠ b → (TX2 a).2.1 ≠ (TX2 b).2.1 := by decide +kernel
theorem tyX2_ok : ∀ k, k < 3 → parseFieldDescriptor (TX2 k).2.2.1 = some (tyX2 k) := by decide +kernel
abbrev cX2_init : ByteArray := prog_4_method_1_code
def yX2_init : MethodName := ⟨RX2, "<init>", "()V"⟩
abbrev cX2_number : ByteArray := prog_4_method_2_code
def yX2_number : MethodName := ⟨RX2, "number", "(I)I"⟩
abbrev cX2_read : ByteArray := prog_4_method_3_code
def yX2_read : MethodName := ⟨RX2, "read", "(LPeerCircle$Tape;)I"⟩
abbrev cX2_readClause : ByteArray := prog_4_method_4_code
def yX2_readClause : MethodName := ⟨RX2, "readClause", "(LPeerCircle$Tape;)I"⟩
abbrev cX2_readDigits : ByteArray := prog_4_method_5_code
def yX2_readDigits : MethodName := ⟨RX2, "readDigits", "(LPeerCircle$Tape;)I"⟩
abbrev cX2_kindOf : ByteArray := prog_4_method_6_code
def yX2_kindOf : MethodName := ⟨RX2, "kindOf", "(I)I"⟩
abbrev cX2_faultAt : ByteArray := prog_4_method_7_code
def yX2_faultAt : MethodName := ⟨RX2, "faultAt", "(II)I"⟩
def RX3 : String := "PeerCircle$Tape"
def TX3 : u_T := fun k => match k with
  | 0 => ("PeerCircle$Tape", "bytes", "[I", true)
  | _ => ("PeerCircle$Tape", "size", "I", false)
def tyX3 : Nat → FieldType := fun k => match k with
  | 0 => .array .int
  | _ => .int
abbrev wsX30 : List Cond := u_ws RX3 TX3 2
theorem nmX3 : ∀ a, a < 2 → ∀ b, b < 2 → a ≠ b → (TX3 a).2.1 ≠ (TX3 b).2.1 := by decide +kernel
theorem tyX3_ok : ∀ k, k < 2 → parseFieldDescriptor (TX3 k).2.2.1 = some (tyX3 k) := by decide +kernel
abbrev cX3_init : ByteArray := prog_5_method_1_code
def yX3_init : MethodName := ⟨RX3, "<init>", "()V"⟩
abbrev cX3_size : ByteArray := prog_5_method_2_code
def yX3_size : MethodName := ⟨RX3, "size", "()I"⟩
abbrev cX3_takesFeed : ByteArray := prog_5_method_3_code
def yX3_takesFeed : MethodName := ⟨RX3, "takesFeed", "()Z"⟩
abbrev cX3_put : ByteArray := prog_5_method_4_code
def yX3_put : MethodName := ⟨RX3, "put", "(I)V"⟩
abbrev cX3_cutTo : ByteArray := prog_5_method_5_code
def yX3_cutTo : MethodName := ⟨RX3, "cutTo", "(I)V"⟩
abbrev cX3_at : ByteArray := prog_5_method_6_code
def yX3_at : MethodName := ⟨RX3, "at", "(I)I"⟩
abbrev cX3_hasDigitAt : ByteArray := prog_5_method_7_code
def yX3_hasDigitAt : MethodName := ⟨RX3, "hasDigitAt", "(I)Z"⟩
def RX4 : String := "PeerCircle$Visits"
def TX4 : u_T := fun k => match k with
  | 0 => ("PeerCircle$Visits", "visitors", "[I", true)
  | 1 => ("PeerCircle$Visits", "visitorsBefore", "[I", true)
  | 2 => ("PeerCircle$Visits", "told", "[[I", true)
  | _ => ("PeerCircle$Visits", "laid", "Z", false)
def tyX4 : Nat → FieldType := fun k => match k with
  | 0 => .array .int
  | 1 => .array .int
  | 2 => .array (.array .int)
  | _ => .boolean
abbrev wsX40 : List Cond := u_ws RX4 TX4 4
theorem nmX4 : ∀ a, a < 4 → ∀ b, b < 4 → a ≠ b → (TX4 a).2.1 ≠ (TX4 b).2.1 := by decide +kernel
theorem tyX4_ok : ∀ k, k < 4 → parseFieldDescriptor (TX4 k).2.2.1 = some (tyX4 k) := by decide +kernel
abbrev cX4_init : ByteArray := prog_6_method_1_code
def yX4_init : MethodName := ⟨RX4, "<init>", "()V"⟩
abbrev cX4_areLaid : ByteArray := prog_6_method_2_code
def yX4_areLaid : MethodName := ⟨RX4, "areLaid", "()Z"⟩
abbrev cX4_setLaid : ByteArray := prog_6_method_3_code
def yX4_setLaid : MethodName := ⟨RX4, "setLaid", "()V"⟩
abbrev cX4_setVisitors : ByteArray := prog_6_method_4_code
def yX4_setVisitors : MethodName := ⟨RX4, "setVisitors", "(II)V"⟩
abbrev cX4_isVisitor : ByteArray := prog_6_method_5_code
def yX4_isVisitor : MethodName := ⟨RX4, "isVisitor", "(II)Z"⟩
abbrev cX4_wasVisitor : ByteArray := prog_6_method_6_code
def yX4_wasVisitor : MethodName := ⟨RX4, "wasVisitor", "(II)Z"⟩
abbrev cX4_visitorCount : ByteArray := prog_6_method_7_code
def yX4_visitorCount : MethodName := ⟨RX4, "visitorCount", "(I)I"⟩
abbrev cX4_visitsBy : ByteArray := prog_6_method_8_code
def yX4_visitsBy : MethodName := ⟨RX4, "visitsBy", "(I)I"⟩
abbrev cX4_total : ByteArray := prog_6_method_9_code
def yX4_total : MethodName := ⟨RX4, "total", "()I"⟩
abbrev cX4_visitorAt : ByteArray := prog_6_method_10_code
def yX4_visitorAt : MethodName := ⟨RX4, "visitorAt", "(II)I"⟩
abbrev cX4_tell : ByteArray := prog_6_method_11_code
def yX4_tell : MethodName := ⟨RX4, "tell", "(IIIZ)V"⟩
abbrev cX4_breachesAt : ByteArray := prog_6_method_12_code
def yX4_breachesAt : MethodName := ⟨RX4, "breachesAt", "(I)I"⟩
abbrev cX4_vouchersFor : ByteArray := prog_6_method_13_code
def yX4_vouchersFor : MethodName := ⟨RX4, "vouchersFor", "(I)I"⟩
abbrev cX4_vouchedForBy : ByteArray := prog_6_method_14_code
def yX4_vouchedForBy : MethodName := ⟨RX4, "vouchedForBy", "(I)I"⟩
abbrev cX4_endYear : ByteArray := prog_6_method_15_code
def yX4_endYear : MethodName := ⟨RX4, "endYear", "()V"⟩
def RX5 : String := "PeerCircle"
def TX5 : u_T := fun k => match k with
  | 0 => ("PeerCircle", "tape", "LPeerCircle$Tape;", true)
  | 1 => ("PeerCircle", "ruling", "LPeerCircle$Rules;", true)
  | 2 => ("PeerCircle", "visits", "LPeerCircle$Visits;", true)
  | 3 => ("PeerCircle", "planner", "LPeerCircle$Planner;", true)
  | 4 => ("PeerCircle", "farms", "[LPeerCircle$Farm;", true)
  | 5 => ("PeerCircle", "sellers", "[I", true)
  | 6 => ("PeerCircle", "weights", "[I", true)
  | 7 => ("PeerCircle", "farmCount", "I", false)
  | _ => ("PeerCircle", "yearNow", "I", false)
def tyX5 : Nat → FieldType := fun k => match k with
  | 0 => .object "PeerCircle$Tape"
  | 1 => .object "PeerCircle$Rules"
  | 2 => .object "PeerCircle$Visits"
  | 3 => .object "PeerCircle$Planner"
  | 4 => .array (.object "PeerCircle$Farm")
  | 5 => .array .int
  | 6 => .array .int
  | 7 => .int
  | _ => .int
abbrev wsX50 : List Cond := u_ws RX5 TX5 9
theorem nmX5 : ∀ a, a < 9 → ∀ b, b < 9 → a ≠ b → (TX5 a).2.1 ≠ (TX5 b).2.1 := by decide +kernel
theorem tyX5_ok : ∀ k, k < 9 → parseFieldDescriptor (TX5 k).2.2.1 = some (tyX5 k) := by decide +kernel
abbrev cX5_init : ByteArray := prog_1_method_1_code
def yX5_init : MethodName := ⟨RX5, "<init>", "()V"⟩
abbrev cX5_feed : ByteArray := prog_1_method_2_code
def yX5_feed : MethodName := ⟨RX5, "feed", "(IIIII)I"⟩
abbrev cX5_rules : ByteArray := prog_1_method_3_code
def yX5_rules : MethodName := ⟨RX5, "rules", "(I)I"⟩
abbrev cX5_farm : ByteArray := prog_1_method_4_code
def yX5_farm : MethodName := ⟨RX5, "farm", "(II)I"⟩
abbrev cX5_buys : ByteArray := prog_1_method_5_code
def yX5_buys : MethodName := ⟨RX5, "buys", "(IIZ)Z"⟩
abbrev cX5_weight : ByteArray := prog_1_method_6_code
def yX5_weight : MethodName := ⟨RX5, "weight", "(II)Z"⟩
abbrev cX5_lay : ByteArray := prog_1_method_7_code
def yX5_lay : MethodName := ⟨RX5, "lay", "()I"⟩
abbrev cX5_visitor : ByteArray := prog_1_method_8_code
def yX5_visitor : MethodName := ⟨RX5, "visitor", "(II)I"⟩
abbrev cX5_tells : ByteArray := prog_1_method_9_code
def yX5_tells : MethodName := ⟨RX5, "tells", "(IIIZ)Z"⟩
abbrev cX5_breaches : ByteArray := prog_1_method_10_code
def yX5_breaches : MethodName := ⟨RX5, "breaches", "(I)I"⟩
abbrev cX5_weighs : ByteArray := prog_1_method_11_code
def yX5_weighs : MethodName := ⟨RX5, "weighs", "(I)I"⟩
abbrev cX5_vouches : ByteArray := prog_1_method_12_code
def yX5_vouches : MethodName := ⟨RX5, "vouches", "(II)I"⟩
abbrev cX5_trust : ByteArray := prog_1_method_13_code
def yX5_trust : MethodName := ⟨RX5, "trust", "(II)I"⟩
abbrev cX5_sell : ByteArray := prog_1_method_14_code
def yX5_sell : MethodName := ⟨RX5, "sell", "(II)Z"⟩
abbrev cX5_year : ByteArray := prog_1_method_15_code
def yX5_year : MethodName := ⟨RX5, "year", "()I"⟩
abbrev cX5_sealed : ByteArray := prog_1_method_16_code
def yX5_sealed : MethodName := ⟨RX5, "sealed", "(I)I"⟩
abbrev cX5_barred : ByteArray := prog_1_method_17_code
def yX5_barred : MethodName := ⟨RX5, "barred", "(II)I"⟩
abbrev cX5_look : ByteArray := prog_1_method_18_code
def yX5_look : MethodName := ⟨RX5, "look", "(II)I"⟩
abbrev cX5_count : ByteArray := prog_1_method_19_code
def yX5_count : MethodName := ⟨RX5, "count", "(I)I"⟩
abbrev cX5_isBelow : ByteArray := prog_1_method_20_code
def yX5_isBelow : MethodName := ⟨RX5, "isBelow", "(II)Z"⟩
abbrev cX5_hasBit : ByteArray := prog_1_method_21_code
def yX5_hasBit : MethodName := ⟨RX5, "hasBit", "(II)Z"⟩
abbrev cX5_oneIf : ByteArray := prog_1_method_22_code
def yX5_oneIf : MethodName := ⟨RX5, "oneIf", "(Z)I"⟩
abbrev cX5_isFarm : ByteArray := prog_1_method_23_code
def yX5_isFarm : MethodName := ⟨RX5, "isFarm", "(I)Z"⟩
abbrev cX5_areFarms : ByteArray := prog_1_method_24_code
def yX5_areFarms : MethodName := ⟨RX5, "areFarms", "(II)Z"⟩
abbrev cX5_farmAt : ByteArray := prog_1_method_25_code
def yX5_farmAt : MethodName := ⟨RX5, "farmAt", "(I)LPeerCircle$Farm;"⟩
abbrev cX5_buysFrom : ByteArray := prog_1_method_26_code
def yX5_buysFrom : MethodName := ⟨RX5, "buysFrom", "(II)Z"⟩
abbrev cX5_isBarred : ByteArray := prog_1_method_27_code
def yX5_isBarred : MethodName := ⟨RX5, "isBarred", "(II)Z"⟩
abbrev cX5_areKin : ByteArray := prog_1_method_28_code
def yX5_areKin : MethodName := ⟨RX5, "areKin", "(II)Z"⟩
abbrev cX5_weightOf : ByteArray := prog_1_method_29_code
def yX5_weightOf : MethodName := ⟨RX5, "weightOf", "(I)I"⟩
abbrev cX5_countSeals : ByteArray := prog_1_method_30_code
def yX5_countSeals : MethodName := ⟨RX5, "countSeals", "()I"⟩
abbrev cX5_countOut : ByteArray := prog_1_method_31_code
def yX5_countOut : MethodName := ⟨RX5, "countOut", "()I"⟩
def RX6 : String := "PeerCircleModel"
def TX6 : u_T := fun k => match k with
  | 0 => ("PeerCircleModel", "tape", "[B", true)
  | 1 => ("PeerCircleModel", "taped", "I", false)
  | 2 => ("PeerCircleModel", "farms", "I", false)
  | 3 => ("PeerCircleModel", "year", "I", false)
  | 4 => ("PeerCircleModel", "isLaid", "Z", false)
  | 5 => ("PeerCircleModel", "rule", "[I", true)
  | 6 => ("PeerCircleModel", "read", "[I", true)
  | 7 => ("PeerCircleModel", "family", "[I", true)
  | 8 => ("PeerCircleModel", "group", "[I", true)
  | 9 => ("PeerCircleModel", "weight", "[I", true)
  | 10 => ("PeerCircleModel", "hasSeal", "[Z", true)
  | 11 => ("PeerCircleModel", "step", "[I", true)
  | 12 => ("PeerCircleModel", "out", "[I", true)
  | 13 => ("PeerCircleModel", "sold", "[I", true)
  | 14 => ("PeerCircleModel", "doubtful", "[I", true)
  | 15 => ("PeerCircleModel", "now", "[I", true)
  | 16 => ("PeerCircleModel", "isBuyer", "[Z", true)
  | 17 => ("PeerCircleModel", "visits", "[Z", true)
  | 18 => ("PeerCircleModel", "had", "[Z", true)
  | 19 => ("PeerCircleModel", "broken", "[I", true)
  | 20 => ("PeerCircleModel", "fixed", "[Z", true)
  | 21 => ("PeerCircleModel", "open", "[Z", true)
  | 22 => ("PeerCircleModel", "flow", "[Z", true)
  | 23 => ("PeerCircleModel", "makes", "[I", true)
  | 24 => ("PeerCircleModel", "gets", "[I", true)
  | 25 => ("PeerCircleModel", "toVisitor", "[I", true)
  | 26 => ("PeerCircleModel", "toFarm", "[I", true)
  | 27 => ("PeerCircleModel", "queue", "[I", true)
  | _ => ("PeerCircleModel", "far", "[I", true)
def tyX6 : Nat → FieldType := fun k => match k with
  | 0 => .array .byte
  | 1 => .int
  | 2 => .int
  | 3 => .int
  | 4 => .boolean
  | 5 => .array .int
  | 6 => .array .int
  | 7 => .array .int
  | 8 => .array .int
  | 9 => .array .int
  | 10 => .array .boolean
  | 11 => .array .int
  | 12 => .array .int
  | 13 => .array .int
  | 14 => .array .int
  | 15 => .array .int
  | 16 => .array .boolean
  | 17 => .array .boolean
  | 18 => .array .boolean
  | 19 => .array .int
  | 20 => .array .boolean
  | 21 => .array .boolean
  | 22 => .array .boolean
  | 23 => .array .int
  | 24 => .array .int
  | 25 => .array .int
  | 26 => .array .int
  | 27 => .array .int
  | _ => .array .int
abbrev wsX60 : List Cond := u_ws RX6 TX6 29
theorem nmX6 : ∀ a, a < 29 → ∀ b, b < 29 → a ≠ b → (TX6 a).2.1 ≠ (TX6 b).2.1 := by decide +kernel
theorem tyX6_ok : ∀ k, k < 29 → parseFieldDescriptor (TX6 k).2.2.1 = some (tyX6 k) := by decide +kernel
abbrev cX6_init : ByteArray := prog_8_method_1_code
def yX6_init : MethodName := ⟨RX6, "<init>", "()V"⟩
abbrev cX6_lies : ByteArray := prog_8_method_2_code
def yX6_lies : MethodName := ⟨RX6, "lies", "(III)Z"⟩
abbrev cX6_push : ByteArray := prog_8_method_3_code
def yX6_push : MethodName := ⟨RX6, "push", "(I)V"⟩
abbrev cX6_feed : ByteArray := prog_8_method_4_code
def yX6_feed : MethodName := ⟨RX6, "feed", "(IIIII)I"⟩
abbrev cX6_asAtFirst : ByteArray := prog_8_method_5_code
def yX6_asAtFirst : MethodName := ⟨RX6, "asAtFirst", "([I)V"⟩
abbrev cX6_letter : ByteArray := prog_8_method_6_code
def yX6_letter : MethodName := ⟨RX6, "letter", "(I)I"⟩
abbrev cX6_canBe : ByteArray := prog_8_method_7_code
def yX6_canBe : MethodName := ⟨RX6, "canBe", "(II)Z"⟩
abbrev cX6_at : ByteArray := prog_8_method_8_code
def yX6_at : MethodName := ⟨RX6, "at", "(II)I"⟩
abbrev cX6_reads : ByteArray := prog_8_method_9_code
def yX6_reads : MethodName := ⟨RX6, "reads", "(I)I"⟩
abbrev cX6_rules : ByteArray := prog_8_method_10_code
def yX6_rules : MethodName := ⟨RX6, "rules", "(I)I"⟩
abbrev cX6_isFarm : ByteArray := prog_8_method_11_code
def yX6_isFarm : MethodName := ⟨RX6, "isFarm", "(I)Z"⟩
abbrev cX6_farm : ByteArray := prog_8_method_12_code
def yX6_farm : MethodName := ⟨RX6, "farm", "(II)I"⟩
abbrev cX6_buys : ByteArray := prog_8_method_13_code
def yX6_buys : MethodName := ⟨RX6, "buys", "(IIZ)Z"⟩
abbrev cX6_weight : ByteArray := prog_8_method_14_code
def yX6_weight : MethodName := ⟨RX6, "weight", "(II)Z"⟩
abbrev cX6_isBarred : ByteArray := prog_8_method_15_code
def yX6_isBarred : MethodName := ⟨RX6, "isBarred", "(II)Z"⟩
abbrev cX6_barred : ByteArray := prog_8_method_16_code
def yX6_barred : MethodName := ⟨RX6, "barred", "(II)I"⟩
abbrev cX6_grows : ByteArray := prog_8_method_17_code
def yX6_grows : MethodName := ⟨RX6, "grows", "()Z"⟩
abbrev cX6_turns : ByteArray := prog_8_method_18_code
def yX6_turns : MethodName := ⟨RX6, "turns", "(I)V"⟩
abbrev cX6_most : ByteArray := prog_8_method_19_code
def yX6_most : MethodName := ⟨RX6, "most", "()I"⟩
abbrev cX6_lay : ByteArray := prog_8_method_20_code
def yX6_lay : MethodName := ⟨RX6, "lay", "()I"⟩
abbrev cX6_isVisit : ByteArray := prog_8_method_21_code
def yX6_isVisit : MethodName := ⟨RX6, "isVisit", "(II)Z"⟩
abbrev cX6_visitorsOf : ByteArray := prog_8_method_22_code
def yX6_visitorsOf : MethodName := ⟨RX6, "visitorsOf", "(I)I"⟩
abbrev cX6_visitor : ByteArray := prog_8_method_23_code
def yX6_visitor : MethodName := ⟨RX6, "visitor", "(II)I"⟩
abbrev cX6_tells : ByteArray := prog_8_method_24_code
def yX6_tells : MethodName := ⟨RX6, "tells", "(IIIZ)Z"⟩
abbrev cX6_breachesAt : ByteArray := prog_8_method_25_code
def yX6_breachesAt : MethodName := ⟨RX6, "breachesAt", "(I)I"⟩
abbrev cX6_weighsAt : ByteArray := prog_8_method_26_code
def yX6_weighsAt : MethodName := ⟨RX6, "weighsAt", "(I)I"⟩
abbrev cX6_breaches : ByteArray := prog_8_method_27_code
def yX6_breaches : MethodName := ⟨RX6, "breaches", "(I)I"⟩
abbrev cX6_weighs : ByteArray := prog_8_method_28_code
def yX6_weighs : MethodName := ⟨RX6, "weighs", "(I)I"⟩
abbrev cX6_isVouched : ByteArray := prog_8_method_29_code
def yX6_isVouched : MethodName := ⟨RX6, "isVouched", "(II)Z"⟩
abbrev cX6_vouches : ByteArray := prog_8_method_30_code
def yX6_vouches : MethodName := ⟨RX6, "vouches", "(II)I"⟩
abbrev cX6_trust : ByteArray := prog_8_method_31_code
def yX6_trust : MethodName := ⟨RX6, "trust", "(II)I"⟩
abbrev cX6_sell : ByteArray := prog_8_method_32_code
def yX6_sell : MethodName := ⟨RX6, "sell", "(II)Z"⟩
abbrev cX6_goesOut : ByteArray := prog_8_method_33_code
def yX6_goesOut : MethodName := ⟨RX6, "goesOut", "(I)V"⟩
abbrev cX6_goesBy : ByteArray := prog_8_method_34_code
def yX6_goesBy : MethodName := ⟨RX6, "goesBy", "(I)V"⟩
abbrev cX6_year : ByteArray := prog_8_method_35_code
def yX6_year : MethodName := ⟨RX6, "year", "()I"⟩
abbrev cX6_sealed : ByteArray := prog_8_method_36_code
def yX6_sealed : MethodName := ⟨RX6, "sealed", "(I)I"⟩
abbrev cX6_look : ByteArray := prog_8_method_37_code
def yX6_look : MethodName := ⟨RX6, "look", "(II)I"⟩
abbrev cX6_count : ByteArray := prog_8_method_38_code
def yX6_count : MethodName := ⟨RX6, "count", "(I)I"⟩
def RJ11 : String := "java/lang/Character"
def TJ11 : u_T := fun k => match k with
  | _ => ("", "", "", false)
def tyJ11 : Nat → FieldType := fun k => match k with
  | _ => .int
abbrev wsJ110 : List Cond := u_ws RJ11 TJ11 0
theorem nmJ11 : ∀ a, a < 0 → ∀ b, b < 0 → a ≠ b → (TJ11 a).2.1 ≠ (TJ11 b).2.1 := by decide +kernel
theorem tyJ11_ok : ∀ k, k < 0 → parseFieldDescriptor (TJ11 k).2.2.1 = some (tyJ11 k) := by decide +kernel
abbrev cJ11_isValidCodePoint_9a6ad : ByteArray := prog_9_method_11_code
def yJ11_isValidCodePoint_9a6ad : MethodName := ⟨RJ11, "isValidCodePoint", "(I)Z"⟩
abbrev cJ11_highSurrogate_5068e : ByteArray := prog_9_method_28_code
def yJ11_highSurrogate_5068e : MethodName := ⟨RJ11, "highSurrogate", "(I)C"⟩
abbrev cJ11_lowSurrogate_5068e : ByteArray := prog_9_method_29_code
def yJ11_lowSurrogate_5068e : MethodName := ⟨RJ11, "lowSurrogate", "(I)C"⟩
def RJ6 : String := "java/lang/Integer"
def TJ6 : u_T := fun k => match k with
  | _ => ("", "", "", false)
def tyJ6 : Nat → FieldType := fun k => match k with
  | _ => .int
abbrev wsJ60 : List Cond := u_ws RJ6 TJ6 0
theorem nmJ6 : ∀ a, a < 0 → ∀ b, b < 0 → a ≠ b → (TJ6 a).2.1 ≠ (TJ6 b).2.1 := by decide +kernel
theorem tyJ6_ok : ∀ k, k < 0 → parseFieldDescriptor (TJ6 k).2.2.1 = some (tyJ6 k) := by decide +kernel
abbrev cJ6_bitCount_0f7a4 : ByteArray := prog_10_method_49_code
def yJ6_bitCount_0f7a4 : MethodName := ⟨RJ6, "bitCount", "(I)I"⟩
def RJ9 : String := "java/lang/Math"
def TJ9 : u_T := fun k => match k with
  | _ => ("", "", "", false)
def tyJ9 : Nat → FieldType := fun k => match k with
  | _ => .int
abbrev wsJ90 : List Cond := u_ws RJ9 TJ9 0
theorem nmJ9 : ∀ a, a < 0 → ∀ b, b < 0 → a ≠ b → (TJ9 a).2.1 ≠ (TJ9 b).2.1 := by decide +kernel
theorem tyJ9_ok : ∀ k, k < 0 → parseFieldDescriptor (TJ9 k).2.2.1 = some (tyJ9 k) := by decide +kernel
abbrev cJ9_max_7cf53 : ByteArray := prog_11_method_65_code
def yJ9_max_7cf53 : MethodName := ⟨RJ9, "max", "(II)I"⟩
abbrev cJ9_min_7cf53 : ByteArray := prog_11_method_69_code
def yJ9_min_7cf53 : MethodName := ⟨RJ9, "min", "(II)I"⟩
def RJ0 : String := "java/lang/String"
def TJ0 : u_T := fun k => match k with
  | _ => ("", "", "", false)
def tyJ0 : Nat → FieldType := fun k => match k with
  | _ => .int
abbrev wsJ00 : List Cond := u_ws RJ0 TJ0 0
theorem nmJ0 : ∀ a, a < 0 → ∀ b, b < 0 → a ≠ b → (TJ0 a).2.1 ≠ (TJ0 b).2.1 := by decide +kernel
theorem tyJ0_ok : ∀ k, k < 0 → parseFieldDescriptor (TJ0 k).2.2.1 = some (tyJ0 k) := by decide +kernel
abbrev cJ0_length_8abf5 : ByteArray := prog_12_method_54_code
def yJ0_length_8abf5 : MethodName := ⟨RJ0, "length", "()I"⟩
abbrev cJ0_indexOf_0f7a4 : ByteArray := prog_12_method_79_code
def yJ0_indexOf_0f7a4 : MethodName := ⟨RJ0, "indexOf", "(I)I"⟩
abbrev cJ0_indexOf_7cf53 : ByteArray := prog_12_method_80_code
def yJ0_indexOf_7cf53 : MethodName := ⟨RJ0, "indexOf", "(II)I"⟩
abbrev cJ0_coder_7d493 : ByteArray := prog_12_method_152_code
def yJ0_coder_7d493 : MethodName := ⟨RJ0, "coder", "()B"⟩
abbrev cJ0_isLatin1_aae02 : ByteArray := prog_12_method_154_code
def yJ0_isLatin1_aae02 : MethodName := ⟨RJ0, "isLatin1", "()Z"⟩
abbrev cJ0_checkBoundsBeginEnd_23922 : ByteArray := prog_12_method_158_code
def yJ0_checkBoundsBeginEnd_23922 : MethodName := ⟨RJ0, "checkBoundsBeginEnd", "(III)V"⟩
def RJ1 : String := "java/lang/StringLatin1"
def TJ1 : u_T := fun k => match k with
  | _ => ("", "", "", false)
def tyJ1 : Nat → FieldType := fun k => match k with
  | _ => .int
abbrev wsJ10 : List Cond := u_ws RJ1 TJ1 0
theorem nmJ1 : ∀ a, a < 0 → ∀ b, b < 0 → a ≠ b → (TJ1 a).2.1 ≠ (TJ1 b).2.1 := by decide +kernel
theorem tyJ1_ok : ∀ k, k < 0 → parseFieldDescriptor (TJ1 k).2.2.1 = some (tyJ1 k) := by decide +kernel
abbrev cJ1_canEncode_9a6ad : ByteArray := prog_13_method_4_code
def yJ1_canEncode_9a6ad : MethodName := ⟨RJ1, "canEncode", "(I)Z"⟩
abbrev cJ1_indexOf_4cfef : ByteArray := prog_13_method_22_code
def yJ1_indexOf_4cfef : MethodName := ⟨RJ1, "indexOf", "([BIII)I"⟩
abbrev cJ1_indexOfChar_4cfef : ByteArray := prog_13_method_23_code
def yJ1_indexOfChar_4cfef : MethodName := ⟨RJ1, "indexOfChar", "([BIII)I"⟩
def RJ2 : String := "java/lang/StringUTF16"
def TJ2 : u_T := fun k => match k with
  | _ => ("", "", "", false)
def tyJ2 : Nat → FieldType := fun k => match k with
  | _ => .int
abbrev wsJ20 : List Cond := u_ws RJ2 TJ2 0
theorem nmJ2 : ∀ a, a < 0 → ∀ b, b < 0 → a ≠ b → (TJ2 a).2.1 ≠ (TJ2 b).2.1 := by decide +kernel
theorem tyJ2_ok : ∀ k, k < 0 → parseFieldDescriptor (TJ2 k).2.2.1 = some (tyJ2 k) := by decide +kernel
abbrev cJ2_getChar_3b067 : ByteArray := prog_14_method_5_code
def yJ2_getChar_3b067 : MethodName := ⟨RJ2, "getChar", "([BI)C"⟩
abbrev cJ2_length_9d52b : ByteArray := prog_14_method_6_code
def yJ2_length_9d52b : MethodName := ⟨RJ2, "length", "([B)I"⟩
abbrev cJ2_indexOf_4cfef : ByteArray := prog_14_method_40_code
def yJ2_indexOf_4cfef : MethodName := ⟨RJ2, "indexOf", "([BIII)I"⟩
abbrev cJ2_indexOfChar_4cfef : ByteArray := prog_14_method_47_code
def yJ2_indexOfChar_4cfef : MethodName := ⟨RJ2, "indexOfChar", "([BIII)I"⟩
abbrev cJ2_indexOfCharUnsafe_4cfef : ByteArray := prog_14_method_48_code
def yJ2_indexOfCharUnsafe_4cfef : MethodName := ⟨RJ2, "indexOfCharUnsafe", "([BIII)I"⟩
abbrev cJ2_indexOfSupplementary_4cfef : ByteArray := prog_14_method_49_code
def yJ2_indexOfSupplementary_4cfef : MethodName := ⟨RJ2, "indexOfSupplementary", "([BIII)I"⟩
abbrev cJ2_checkBoundsBeginEnd_d044e : ByteArray := prog_14_method_93_code
def yJ2_checkBoundsBeginEnd_d044e : MethodName := ⟨RJ2, "checkBoundsBeginEnd", "(II[B)V"⟩
def RJ10 : String := "java/lang/System"
def TJ10 : u_T := fun k => match k with
  | _ => ("", "", "", false)
def tyJ10 : Nat → FieldType := fun k => match k with
  | _ => .int
abbrev wsJ100 : List Cond := u_ws RJ10 TJ10 0
theorem nmJ10 : ∀ a, a < 0 → ∀ b, b < 0 → a ≠ b → (TJ10 a).2.1 ≠ (TJ10 b).2.1 := by decide +kernel
theorem tyJ10_ok : ∀ k, k < 0 → parseFieldDescriptor (TJ10 k).2.2.1 = some (tyJ10 k) := by decide +kernel
def RJ7 : String := "java/util/Arrays"
def TJ7 : u_T := fun k => match k with
  | _ => ("", "", "", false)
def tyJ7 : Nat → FieldType := fun k => match k with
  | _ => .int
abbrev wsJ70 : List Cond := u_ws RJ7 TJ7 0
theorem nmJ7 : ∀ a, a < 0 → ∀ b, b < 0 → a ≠ b → (TJ7 a).2.1 ≠ (TJ7 b).2.1 := by decide +kernel
theorem tyJ7_ok : ∀ k, k < 0 → parseFieldDescriptor (TJ7 k).2.2.1 = some (tyJ7 k) := by decide +kernel
abbrev cJ7_fill_53178 : ByteArray := prog_16_method_103_code
def yJ7_fill_53178 : MethodName := ⟨RJ7, "fill", "([II)V"⟩
def RJ3 : String := "jdk/internal/util/Preconditions"
def TJ3 : u_T := fun k => match k with
  | _ => ("", "", "", false)
def tyJ3 : Nat → FieldType := fun k => match k with
  | _ => .int
abbrev wsJ30 : List Cond := u_ws RJ3 TJ3 0
theorem nmJ3 : ∀ a, a < 0 → ∀ b, b < 0 → a ≠ b → (TJ3 a).2.1 ≠ (TJ3 b).2.1 := by decide +kernel
theorem tyJ3_ok : ∀ k, k < 0 → parseFieldDescriptor (TJ3 k).2.2.1 = some (tyJ3 k) := by decide +kernel
abbrev cJ3_checkFromToIndex_8c36e : ByteArray := prog_17_method_12_code
def yJ3_checkFromToIndex_8c36e : MethodName := ⟨RJ3, "checkFromToIndex", "(IIILjava/util/function/BiFunction;)I"⟩
def RL : String := "PeerCircleLaw"
abbrev cL_law : ByteArray := code
def yL_law : MethodName := ⟨RL, "law", "([I)Z"⟩
abbrev vwCl : List vw_C := [(RX0, TX0, 8), (RX1, TX1, 7), (RX2, TX2, 3), (RX3, TX3, 2), (RX4, TX4, 4), (RX5, TX5, 9), (RX6, TX6, 29)]
