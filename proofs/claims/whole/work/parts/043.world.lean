/-! THE STATE of either side: numbers by their places, arrays by their places, how many farms, a farm's numbers -/
abbrev St_ : Type := (Nat → Int32) × (Nat → Nat → Int32) × Nat × (Nat → Nat → Int32)
def sS (σ : St_) (k : Nat) : Int32 := σ.1 k
def sM (σ : St_) (k : Nat) : Nat → Int32 := σ.2.1 k
def sN (σ : St_) : Nat := σ.2.2.1
def sF (σ : St_) (i k : Nat) : Int32 := σ.2.2.2 i k
def uS (σ : St_) (k : Nat) (v : Int32) : St_ := (fun j => if j = k then v else σ.1 j, σ.2)
def uA (σ : St_) (k : Nat) (f : Nat → Int32) : St_ := (σ.1, fun j => if j = k then f else σ.2.1 j, σ.2.2)
def uM (σ : St_) (k j : Nat) (v : Int32) : St_ := uA σ k (upd (sM σ k) j v)
def uF (σ : St_) (i k : Nat) (v : Int32) : St_ := (σ.1, σ.2.1, σ.2.2.1, fun a b => if a = i then (if b = k then v else σ.2.2.2 a b) else σ.2.2.2 a b)
def uN (σ : St_) (f : Nat → Int32) : St_ := (σ.1, σ.2.1, σ.2.2.1 + 1, fun a b => if a = σ.2.2.1 then f b else σ.2.2.2 a b)
theorem sS_uS (σ : St_) (a k : Nat) (v : Int32) : sS (uS σ k v) a = if a = k then v else sS σ a := rfl
theorem sS_uA (σ : St_) (a k : Nat) (f : Nat → Int32) : sS (uA σ k f) a = sS σ a := rfl
theorem sS_uM (σ : St_) (a k j : Nat) (v : Int32) : sS (uM σ k j v) a = sS σ a := rfl
theorem sS_uF (σ : St_) (a i k : Nat) (v : Int32) : sS (uF σ i k v) a = sS σ a := rfl
theorem sM_uS (σ : St_) (a k : Nat) (v : Int32) : sM (uS σ k v) a = sM σ a := rfl
theorem sM_uA (σ : St_) (a k : Nat) (f : Nat → Int32) : sM (uA σ k f) a = if a = k then f else sM σ a := rfl
theorem sM_uM (σ : St_) (a k j : Nat) (v : Int32) : sM (uM σ k j v) a = if a = k then upd (sM σ k) j v else sM σ a := rfl
theorem sM_uF (σ : St_) (a i k : Nat) (v : Int32) : sM (uF σ i k v) a = sM σ a := rfl
theorem sN_uS (σ : St_) (k : Nat) (v : Int32) : sN (uS σ k v) = sN σ := rfl
theorem sN_uA (σ : St_) (k : Nat) (f : Nat → Int32) : sN (uA σ k f) = sN σ := rfl
theorem sN_uM (σ : St_) (k j : Nat) (v : Int32) : sN (uM σ k j v) = sN σ := rfl
theorem sN_uF (σ : St_) (i k : Nat) (v : Int32) : sN (uF σ i k v) = sN σ := rfl
theorem sF_uS (σ : St_) (a b k : Nat) (v : Int32) : sF (uS σ k v) a b = sF σ a b := rfl
theorem sF_uA (σ : St_) (a b k : Nat) (f : Nat → Int32) : sF (uA σ k f) a b = sF σ a b := rfl
theorem sF_uM (σ : St_) (a b k j : Nat) (v : Int32) : sF (uM σ k j v) a b = sF σ a b := rfl
theorem sF_uF (σ : St_) (a b i k : Nat) (v : Int32) : sF (uF σ i k v) a b = if a = i then (if b = k then v else sF σ a b) else sF σ a b := rfl
def tysW (cy : Nat → ClassId) : List (ClassId × FieldType) := [(cy 0, .int), (cy 1, .boolean), (cy 2, .byte), (cy 3, .object "PeerCircle$Farm"), (cy 4, .array .int)]
/-- a farm's cell -/
def fr_ (σ : St_) (i : Nat) : List Value := [.int (sF σ i 0), .int (sF σ i 1), .int (sF σ i 2), .int (sF σ i 3), .int (sF σ i 4), .int (sF σ i 5), .int (sF σ i 6), .int (sF σ i 7)]
/-- THE CLASS'S WORLD -/
def wXf (cy : Nat → ClassId) (ad fad : Nat → Nat) (σ : St_) : va_W := [(ad 0, .inl (cy 0, 60, .inl (sM σ 0))), (ad 1, .inl (cy 0, 6, .inl (sM σ 1))), (ad 2, .inl (cy 0, 6, .inl (sM σ 2))), (ad 3, .inl (cy 0, 10, .inl (sM σ 3))), (ad 4, .inl (cy 0, 10, .inl (sM σ 4))), (ad 5, .inl (cy 0, 22, .inl (sM σ 5))), (ad 6, .inl (cy 0, 22, .inl (sM σ 6))), (ad 7, .inl (cy 0, 22, .inl (sM σ 7))), (ad 8, .inl (cy 0, 10, .inl (sM σ 8))), (ad 9, .inl (cy 0, 10, .inl (sM σ 9))), (ad 10, .inl (cy 0, 10, .inl (sM σ 10))), (ad 11, .inl (cy 0, 8, .inl (sM σ 11))), (ad 12, .inl (cy 0, 10, .inl (sM σ 12))), (ad 13, .inl (cy 0, 10, .inl (sM σ 13))), (ad 14, .inl (cy 0, 10, .inl (sM σ 14))), (ad 15, .inl (cy 0, 10, .inl (sM σ 15))), (ad 16, .inl (cy 0, 10, .inl (sM σ 16))), (ad 17, .inl (cy 0, 10, .inl (sM σ 17))), (ad 18, .inl (cy 0, 10, .inl (sM σ 18))), (ad 19, .inl (cy 0, 10, .inl (sM σ 19))), (ad 20, .inl (cy 0, 10, .inl (sM σ 20))), (ad 21, .inl (cy 0, 10, .inl (sM σ 21))), (ad 22, .inl (cy 4, 10, .inr (.inr (.inr (.inr (fun i => if i < 10 then some (ad (12 + i)) else none)))))), (ad 23, .inl (cy 3, 10, .inr (.inr (.inr (.inr (fun i => if i < sN σ then some (fad i) else none)))))), (ad 24, .inr (3, [.ref (ad 0), .int (sS σ 0)])), (ad 25, .inr (2, [.ref (ad 1), .ref (ad 2), .int (sS σ 1)])), (ad 26, .inr (4, [.ref (ad 3), .ref (ad 4), .ref (ad 22), .int (sS σ 2)])), (ad 27, .inr (1, [.ref (ad 5), .ref (ad 6), .ref (ad 7), .ref (ad 8), .ref (ad 9), .int (sS σ 3), .int (sS σ 4)])), (ad 28, .inr (5, [.ref (ad 24), .ref (ad 25), .ref (ad 26), .ref (ad 27), .ref (ad 23), .ref (ad 10), .ref (ad 11), .int (sS σ 5), .int (sS σ 6)]))]
def wXp (fad : Nat → Nat) (σ : St_) : va_W := (List.range (sN σ)).map (fun i => (fad i, .inr (0, fr_ σ i)))
def wX (cy : Nat → ClassId) (ad fad : Nat → Nat) (σ : St_) : va_W := wXf cy ad fad σ ++ wXp fad σ
theorem wX_g0 (cy : Nat → ClassId) (ad fad : Nat → Nat) (σ : St_) : (wX cy ad fad σ)[0]? = some (ad 0, .inl (cy 0, 60, .inl (sM σ 0))) := rfl
theorem wX_g1 (cy : Nat → ClassId) (ad fad : Nat → Nat) (σ : St_) : (wX cy ad fad σ)[1]? = some (ad 1, .inl (cy 0, 6, .inl (sM σ 1))) := rfl
theorem wX_g2 (cy : Nat → ClassId) (ad fad : Nat → Nat) (σ : St_) : (wX cy ad fad σ)[2]? = some (ad 2, .inl (cy 0, 6, .inl (sM σ 2))) := rfl
theorem wX_g3 (cy : Nat → ClassId) (ad fad : Nat → Nat) (σ : St_) : (wX cy ad fad σ)[3]? = some (ad 3, .inl (cy 0, 10, .inl (sM σ 3))) := rfl
theorem wX_g4 (cy : Nat → ClassId) (ad fad : Nat → Nat) (σ : St_) : (wX cy ad fad σ)[4]? = some (ad 4, .inl (cy 0, 10, .inl (sM σ 4))) := rfl
theorem wX_g5 (cy : Nat → ClassId) (ad fad : Nat → Nat) (σ : St_) : (wX cy ad fad σ)[5]? = some (ad 5, .inl (cy 0, 22, .inl (sM σ 5))) := rfl
theorem wX_g6 (cy : Nat → ClassId) (ad fad : Nat → Nat) (σ : St_) : (wX cy ad fad σ)[6]? = some (ad 6, .inl (cy 0, 22, .inl (sM σ 6))) := rfl
theorem wX_g7 (cy : Nat → ClassId) (ad fad : Nat → Nat) (σ : St_) : (wX cy ad fad σ)[7]? = some (ad 7, .inl (cy 0, 22, .inl (sM σ 7))) := rfl
theorem wX_g8 (cy : Nat → ClassId) (ad fad : Nat → Nat) (σ : St_) : (wX cy ad fad σ)[8]? = some (ad 8, .inl (cy 0, 10, .inl (sM σ 8))) := rfl
theorem wX_g9 (cy : Nat → ClassId) (ad fad : Nat → Nat) (σ : St_) : (wX cy ad fad σ)[9]? = some (ad 9, .inl (cy 0, 10, .inl (sM σ 9))) := rfl
theorem wX_g10 (cy : Nat → ClassId) (ad fad : Nat → Nat) (σ : St_) : (wX cy ad fad σ)[10]? = some (ad 10, .inl (cy 0, 10, .inl (sM σ 10))) := rfl
theorem wX_g11 (cy : Nat → ClassId) (ad fad : Nat → Nat) (σ : St_) : (wX cy ad fad σ)[11]? = some (ad 11, .inl (cy 0, 8, .inl (sM σ 11))) := rfl
theorem wX_g12 (cy : Nat → ClassId) (ad fad : Nat → Nat) (σ : St_) : (wX cy ad fad σ)[12]? = some (ad 12, .inl (cy 0, 10, .inl (sM σ 12))) := rfl
theorem wX_g13 (cy : Nat → ClassId) (ad fad : Nat → Nat) (σ : St_) : (wX cy ad fad σ)[13]? = some (ad 13, .inl (cy 0, 10, .inl (sM σ 13))) := rfl
theorem wX_g14 (cy : Nat → ClassId) (ad fad : Nat → Nat) (σ : St_) : (wX cy ad fad σ)[14]? = some (ad 14, .inl (cy 0, 10, .inl (sM σ 14))) := rfl
theorem wX_g15 (cy : Nat → ClassId) (ad fad : Nat → Nat) (σ : St_) : (wX cy ad fad σ)[15]? = some (ad 15, .inl (cy 0, 10, .inl (sM σ 15))) := rfl
theorem wX_g16 (cy : Nat → ClassId) (ad fad : Nat → Nat) (σ : St_) : (wX cy ad fad σ)[16]? = some (ad 16, .inl (cy 0, 10, .inl (sM σ 16))) := rfl
theorem wX_g17 (cy : Nat → ClassId) (ad fad : Nat → Nat) (σ : St_) : (wX cy ad fad σ)[17]? = some (ad 17, .inl (cy 0, 10, .inl (sM σ 17))) := rfl
theorem wX_g18 (cy : Nat → ClassId) (ad fad : Nat → Nat) (σ : St_) : (wX cy ad fad σ)[18]? = some (ad 18, .inl (cy 0, 10, .inl (sM σ 18))) := rfl
theorem wX_g19 (cy : Nat → ClassId) (ad fad : Nat → Nat) (σ : St_) : (wX cy ad fad σ)[19]? = some (ad 19, .inl (cy 0, 10, .inl (sM σ 19))) := rfl
theorem wX_g20 (cy : Nat → ClassId) (ad fad : Nat → Nat) (σ : St_) : (wX cy ad fad σ)[20]? = some (ad 20, .inl (cy 0, 10, .inl (sM σ 20))) := rfl
theorem wX_g21 (cy : Nat → ClassId) (ad fad : Nat → Nat) (σ : St_) : (wX cy ad fad σ)[21]? = some (ad 21, .inl (cy 0, 10, .inl (sM σ 21))) := rfl
theorem wX_g22 (cy : Nat → ClassId) (ad fad : Nat → Nat) (σ : St_) : (wX cy ad fad σ)[22]? = some (ad 22, .inl (cy 4, 10, .inr (.inr (.inr (.inr (fun i => if i < 10 then some (ad (12 + i)) else none)))))) := rfl
theorem wX_g23 (cy : Nat → ClassId) (ad fad : Nat → Nat) (σ : St_) : (wX cy ad fad σ)[23]? = some (ad 23, .inl (cy 3, 10, .inr (.inr (.inr (.inr (fun i => if i < sN σ then some (fad i) else none)))))) := rfl
theorem wX_g24 (cy : Nat → ClassId) (ad fad : Nat → Nat) (σ : St_) : (wX cy ad fad σ)[24]? = some (ad 24, .inr (3, [.ref (ad 0), .int (sS σ 0)])) := rfl
theorem wX_g25 (cy : Nat → ClassId) (ad fad : Nat → Nat) (σ : St_) : (wX cy ad fad σ)[25]? = some (ad 25, .inr (2, [.ref (ad 1), .ref (ad 2), .int (sS σ 1)])) := rfl
theorem wX_g26 (cy : Nat → ClassId) (ad fad : Nat → Nat) (σ : St_) : (wX cy ad fad σ)[26]? = some (ad 26, .inr (4, [.ref (ad 3), .ref (ad 4), .ref (ad 22), .int (sS σ 2)])) := rfl
theorem wX_g27 (cy : Nat → ClassId) (ad fad : Nat → Nat) (σ : St_) : (wX cy ad fad σ)[27]? = some (ad 27, .inr (1, [.ref (ad 5), .ref (ad 6), .ref (ad 7), .ref (ad 8), .ref (ad 9), .int (sS σ 3), .int (sS σ 4)])) := rfl
theorem wX_g28 (cy : Nat → ClassId) (ad fad : Nat → Nat) (σ : St_) : (wX cy ad fad σ)[28]? = some (ad 28, .inr (5, [.ref (ad 24), .ref (ad 25), .ref (ad 26), .ref (ad 27), .ref (ad 23), .ref (ad 10), .ref (ad 11), .int (sS σ 5), .int (sS σ 6)])) := rfl
theorem wX_a0 (cy : Nat → ClassId) (ad fad : Nat → Nat) (σ : St_) (f : Nat → Int32) : (wX cy ad fad σ).set 0 (ad 0, .inl (cy 0, 60, .inl f)) = wX cy ad fad (uA σ 0 f) := rfl
theorem wX_a1 (cy : Nat → ClassId) (ad fad : Nat → Nat) (σ : St_) (f : Nat → Int32) : (wX cy ad fad σ).set 1 (ad 1, .inl (cy 0, 6, .inl f)) = wX cy ad fad (uA σ 1 f) := rfl
theorem wX_a2 (cy : Nat → ClassId) (ad fad : Nat → Nat) (σ : St_) (f : Nat → Int32) : (wX cy ad fad σ).set 2 (ad 2, .inl (cy 0, 6, .inl f)) = wX cy ad fad (uA σ 2 f) := rfl
theorem wX_a3 (cy : Nat → ClassId) (ad fad : Nat → Nat) (σ : St_) (f : Nat → Int32) : (wX cy ad fad σ).set 3 (ad 3, .inl (cy 0, 10, .inl f)) = wX cy ad fad (uA σ 3 f) := rfl
theorem wX_a4 (cy : Nat → ClassId) (ad fad : Nat → Nat) (σ : St_) (f : Nat → Int32) : (wX cy ad fad σ).set 4 (ad 4, .inl (cy 0, 10, .inl f)) = wX cy ad fad (uA σ 4 f) := rfl
theorem wX_a5 (cy : Nat → ClassId) (ad fad : Nat → Nat) (σ : St_) (f : Nat → Int32) : (wX cy ad fad σ).set 5 (ad 5, .inl (cy 0, 22, .inl f)) = wX cy ad fad (uA σ 5 f) := rfl
theorem wX_a6 (cy : Nat → ClassId) (ad fad : Nat → Nat) (σ : St_) (f : Nat → Int32) : (wX cy ad fad σ).set 6 (ad 6, .inl (cy 0, 22, .inl f)) = wX cy ad fad (uA σ 6 f) := rfl
theorem wX_a7 (cy : Nat → ClassId) (ad fad : Nat → Nat) (σ : St_) (f : Nat → Int32) : (wX cy ad fad σ).set 7 (ad 7, .inl (cy 0, 22, .inl f)) = wX cy ad fad (uA σ 7 f) := rfl
theorem wX_a8 (cy : Nat → ClassId) (ad fad : Nat → Nat) (σ : St_) (f : Nat → Int32) : (wX cy ad fad σ).set 8 (ad 8, .inl (cy 0, 10, .inl f)) = wX cy ad fad (uA σ 8 f) := rfl
theorem wX_a9 (cy : Nat → ClassId) (ad fad : Nat → Nat) (σ : St_) (f : Nat → Int32) : (wX cy ad fad σ).set 9 (ad 9, .inl (cy 0, 10, .inl f)) = wX cy ad fad (uA σ 9 f) := rfl
theorem wX_a10 (cy : Nat → ClassId) (ad fad : Nat → Nat) (σ : St_) (f : Nat → Int32) : (wX cy ad fad σ).set 10 (ad 10, .inl (cy 0, 10, .inl f)) = wX cy ad fad (uA σ 10 f) := rfl
theorem wX_a11 (cy : Nat → ClassId) (ad fad : Nat → Nat) (σ : St_) (f : Nat → Int32) : (wX cy ad fad σ).set 11 (ad 11, .inl (cy 0, 8, .inl f)) = wX cy ad fad (uA σ 11 f) := rfl
theorem wX_a12 (cy : Nat → ClassId) (ad fad : Nat → Nat) (σ : St_) (f : Nat → Int32) : (wX cy ad fad σ).set 12 (ad 12, .inl (cy 0, 10, .inl f)) = wX cy ad fad (uA σ 12 f) := rfl
theorem wX_a13 (cy : Nat → ClassId) (ad fad : Nat → Nat) (σ : St_) (f : Nat → Int32) : (wX cy ad fad σ).set 13 (ad 13, .inl (cy 0, 10, .inl f)) = wX cy ad fad (uA σ 13 f) := rfl
theorem wX_a14 (cy : Nat → ClassId) (ad fad : Nat → Nat) (σ : St_) (f : Nat → Int32) : (wX cy ad fad σ).set 14 (ad 14, .inl (cy 0, 10, .inl f)) = wX cy ad fad (uA σ 14 f) := rfl
theorem wX_a15 (cy : Nat → ClassId) (ad fad : Nat → Nat) (σ : St_) (f : Nat → Int32) : (wX cy ad fad σ).set 15 (ad 15, .inl (cy 0, 10, .inl f)) = wX cy ad fad (uA σ 15 f) := rfl
theorem wX_a16 (cy : Nat → ClassId) (ad fad : Nat → Nat) (σ : St_) (f : Nat → Int32) : (wX cy ad fad σ).set 16 (ad 16, .inl (cy 0, 10, .inl f)) = wX cy ad fad (uA σ 16 f) := rfl
theorem wX_a17 (cy : Nat → ClassId) (ad fad : Nat → Nat) (σ : St_) (f : Nat → Int32) : (wX cy ad fad σ).set 17 (ad 17, .inl (cy 0, 10, .inl f)) = wX cy ad fad (uA σ 17 f) := rfl
theorem wX_a18 (cy : Nat → ClassId) (ad fad : Nat → Nat) (σ : St_) (f : Nat → Int32) : (wX cy ad fad σ).set 18 (ad 18, .inl (cy 0, 10, .inl f)) = wX cy ad fad (uA σ 18 f) := rfl
theorem wX_a19 (cy : Nat → ClassId) (ad fad : Nat → Nat) (σ : St_) (f : Nat → Int32) : (wX cy ad fad σ).set 19 (ad 19, .inl (cy 0, 10, .inl f)) = wX cy ad fad (uA σ 19 f) := rfl
theorem wX_a20 (cy : Nat → ClassId) (ad fad : Nat → Nat) (σ : St_) (f : Nat → Int32) : (wX cy ad fad σ).set 20 (ad 20, .inl (cy 0, 10, .inl f)) = wX cy ad fad (uA σ 20 f) := rfl
theorem wX_a21 (cy : Nat → ClassId) (ad fad : Nat → Nat) (σ : St_) (f : Nat → Int32) : (wX cy ad fad σ).set 21 (ad 21, .inl (cy 0, 10, .inl f)) = wX cy ad fad (uA σ 21 f) := rfl
theorem wX_s0 (cy : Nat → ClassId) (ad fad : Nat → Nat) (σ : St_) (v : Int32) : (wX cy ad fad σ).set 24 (ad 24, .inr (3, [.ref (ad 0), .int (sS σ 0)].set 1 (.int v))) = wX cy ad fad (uS σ 0 v) := rfl
theorem wX_s1 (cy : Nat → ClassId) (ad fad : Nat → Nat) (σ : St_) (v : Int32) : (wX cy ad fad σ).set 25 (ad 25, .inr (2, [.ref (ad 1), .ref (ad 2), .int (sS σ 1)].set 2 (.int v))) = wX cy ad fad (uS σ 1 v) := rfl
theorem wX_s2 (cy : Nat → ClassId) (ad fad : Nat → Nat) (σ : St_) (v : Int32) : (wX cy ad fad σ).set 26 (ad 26, .inr (4, [.ref (ad 3), .ref (ad 4), .ref (ad 22), .int (sS σ 2)].set 3 (.int v))) = wX cy ad fad (uS σ 2 v) := rfl
theorem wX_s3 (cy : Nat → ClassId) (ad fad : Nat → Nat) (σ : St_) (v : Int32) : (wX cy ad fad σ).set 27 (ad 27, .inr (1, [.ref (ad 5), .ref (ad 6), .ref (ad 7), .ref (ad 8), .ref (ad 9), .int (sS σ 3), .int (sS σ 4)].set 5 (.int v))) = wX cy ad fad (uS σ 3 v) := rfl
theorem wX_s4 (cy : Nat → ClassId) (ad fad : Nat → Nat) (σ : St_) (v : Int32) : (wX cy ad fad σ).set 27 (ad 27, .inr (1, [.ref (ad 5), .ref (ad 6), .ref (ad 7), .ref (ad 8), .ref (ad 9), .int (sS σ 3), .int (sS σ 4)].set 6 (.int v))) = wX cy ad fad (uS σ 4 v) := rfl
theorem wX_s5 (cy : Nat → ClassId) (ad fad : Nat → Nat) (σ : St_) (v : Int32) : (wX cy ad fad σ).set 28 (ad 28, .inr (5, [.ref (ad 24), .ref (ad 25), .ref (ad 26), .ref (ad 27), .ref (ad 23), .ref (ad 10), .ref (ad 11), .int (sS σ 5), .int (sS σ 6)].set 7 (.int v))) = wX cy ad fad (uS σ 5 v) := rfl
theorem wX_s6 (cy : Nat → ClassId) (ad fad : Nat → Nat) (σ : St_) (v : Int32) : (wX cy ad fad σ).set 28 (ad 28, .inr (5, [.ref (ad 24), .ref (ad 25), .ref (ad 26), .ref (ad 27), .ref (ad 23), .ref (ad 10), .ref (ad 11), .int (sS σ 5), .int (sS σ 6)].set 8 (.int v))) = wX cy ad fad (uS σ 6 v) := rfl
theorem wX_row (cy : Nat → ClassId) (ad fad : Nat → Nat) (σ : St_) : ∀ j : Nat, j < 10 → (wX cy ad fad σ)[12 + j]? = some (ad (12 + j), .inl (cy 0, 10, .inl (sM σ (12 + j)))) := by
  intro j hj
  match j, hj with
  | 0, _ => rfl
  | 1, _ => rfl
  | 2, _ => rfl
  | 3, _ => rfl
  | 4, _ => rfl
  | 5, _ => rfl
  | 6, _ => rfl
  | 7, _ => rfl
  | 8, _ => rfl
  | 9, _ => rfl
  | j + 10, hj => exact absurd hj (by omega)
theorem wX_rowS (cy : Nat → ClassId) (ad fad : Nat → Nat) (σ : St_) (f : Nat → Int32) : ∀ j : Nat, j < 10 → (wX cy ad fad σ).set (12 + j) (ad (12 + j), .inl (cy 0, 10, .inl f)) = wX cy ad fad (uA σ (12 + j) f) := by
  intro j hj
  match j, hj with
  | 0, _ => rfl
  | 1, _ => rfl
  | 2, _ => rfl
  | 3, _ => rfl
  | 4, _ => rfl
  | 5, _ => rfl
  | 6, _ => rfl
  | 7, _ => rfl
  | 8, _ => rfl
  | 9, _ => rfl
  | j + 10, hj => exact absurd hj (by omega)
theorem wXf_len (cy : Nat → ClassId) (ad fad : Nat → Nat) (σ : St_) : (wXf cy ad fad σ).length = 29 := rfl
theorem wX_farm (cy : Nat → ClassId) (ad fad : Nat → Nat) (σ : St_) {i : Nat} (hi : i < sN σ) : (wX cy ad fad σ)[29 + i]? = some (fad i, .inr (0, fr_ σ i)) := by
  unfold wX
  rw [List.getElem?_append_right (by rw [wXf_len]; omega), wXf_len, Nat.add_sub_cancel_left]
  unfold wXp
  rw [List.getElem?_map, List.getElem?_range hi]
  rfl
theorem wX_farmS (cy : Nat → ClassId) (ad fad : Nat → Nat) (σ : St_) {i : Nat} (hi : i < sN σ) (kf : Nat) (hk : kf < 8) (v : Int32) : (wX cy ad fad σ).set (29 + i) (fad i, .inr (0, (fr_ σ i).set kf (.int v))) = wX cy ad fad (uF σ i kf v) := by
  have h1 : (fr_ σ i).set kf (.int v) = fr_ (uF σ i kf v) i := by
    match kf, hk with
    | 0, _ => simp [fr_, sF_uF]
    | 1, _ => simp [fr_, sF_uF]
    | 2, _ => simp [fr_, sF_uF]
    | 3, _ => simp [fr_, sF_uF]
    | 4, _ => simp [fr_, sF_uF]
    | 5, _ => simp [fr_, sF_uF]
    | 6, _ => simp [fr_, sF_uF]
    | 7, _ => simp [fr_, sF_uF]
    | kf + 8, hk => exact absurd hk (by omega)
  rw [h1]
  unfold wX
  rw [List.set_append_right _ _ (by rw [wXf_len]; omega), wXf_len, Nat.add_sub_cancel_left]
  refine congrArg (fun z => wXf cy ad fad σ ++ z) ?_
  unfold wXp
  apply List.ext_getElem?
  intro j
  rw [List.getElem?_set]
  by_cases hj : j < sN σ
  · have hj2 : j < sN (uF σ i kf v) := hj
    rw [List.getElem?_map, List.getElem?_map, List.getElem?_range hj, List.getElem?_range hj2]
    by_cases hij : i = j
    · subst hij
      simp [hj]
    · rw [if_neg hij]
      have hji : ¬ j = i := fun h => hij h.symm
      simp [fr_, sF_uF, hji]
  · have hj2 : ¬ j < sN (uF σ i kf v) := hj
    have hij : ¬ i = j := fun h => hj (by omega)
    rw [if_neg hij]
    rw [List.getElem?_eq_none (by simp; omega), List.getElem?_eq_none (by simp; omega)]
/-- THE REFERENCE'S WORLD -/
def wM (cy : Nat → ClassId) (ad : Nat → Nat) (σ : St_) : va_W := [(ad 0, .inl (cy 2, 60, .inl (sM σ 0))), (ad 5, .inl (cy 0, 6, .inl (sM σ 5))), (ad 6, .inl (cy 0, 6, .inl (sM σ 6))), (ad 7, .inl (cy 0, 10, .inl (sM σ 7))), (ad 8, .inl (cy 0, 10, .inl (sM σ 8))), (ad 9, .inl (cy 0, 8, .inl (sM σ 9))), (ad 10, .inl (cy 1, 10, .inl (sM σ 10))), (ad 11, .inl (cy 0, 10, .inl (sM σ 11))), (ad 12, .inl (cy 0, 10, .inl (sM σ 12))), (ad 13, .inl (cy 0, 10, .inl (sM σ 13))), (ad 14, .inl (cy 0, 10, .inl (sM σ 14))), (ad 15, .inl (cy 0, 10, .inl (sM σ 15))), (ad 16, .inl (cy 1, 100, .inl (sM σ 16))), (ad 17, .inl (cy 1, 100, .inl (sM σ 17))), (ad 18, .inl (cy 1, 100, .inl (sM σ 18))), (ad 19, .inl (cy 0, 100, .inl (sM σ 19))), (ad 20, .inl (cy 1, 100, .inl (sM σ 20))), (ad 21, .inl (cy 1, 100, .inl (sM σ 21))), (ad 22, .inl (cy 1, 100, .inl (sM σ 22))), (ad 23, .inl (cy 0, 10, .inl (sM σ 23))), (ad 24, .inl (cy 0, 10, .inl (sM σ 24))), (ad 25, .inl (cy 0, 10, .inl (sM σ 25))), (ad 26, .inl (cy 0, 10, .inl (sM σ 26))), (ad 27, .inl (cy 0, 20, .inl (sM σ 27))), (ad 28, .inl (cy 0, 10, .inl (sM σ 28))), (ad 29, .inr (6, [.ref (ad 0), .int (sS σ 1), .int (sS σ 2), .int (sS σ 3), .int (sS σ 4), .ref (ad 5), .ref (ad 6), .ref (ad 7), .ref (ad 8), .ref (ad 9), .ref (ad 10), .ref (ad 11), .ref (ad 12), .ref (ad 13), .ref (ad 14), .ref (ad 15), .ref (ad 16), .ref (ad 17), .ref (ad 18), .ref (ad 19), .ref (ad 20), .ref (ad 21), .ref (ad 22), .ref (ad 23), .ref (ad 24), .ref (ad 25), .ref (ad 26), .ref (ad 27), .ref (ad 28)]))]
theorem wM_g0 (cy : Nat → ClassId) (ad : Nat → Nat) (σ : St_) : (wM cy ad σ)[0]? = some (ad 0, .inl (cy 2, 60, .inl (sM σ 0))) := rfl
theorem wM_g5 (cy : Nat → ClassId) (ad : Nat → Nat) (σ : St_) : (wM cy ad σ)[1]? = some (ad 5, .inl (cy 0, 6, .inl (sM σ 5))) := rfl
theorem wM_g6 (cy : Nat → ClassId) (ad : Nat → Nat) (σ : St_) : (wM cy ad σ)[2]? = some (ad 6, .inl (cy 0, 6, .inl (sM σ 6))) := rfl
theorem wM_g7 (cy : Nat → ClassId) (ad : Nat → Nat) (σ : St_) : (wM cy ad σ)[3]? = some (ad 7, .inl (cy 0, 10, .inl (sM σ 7))) := rfl
theorem wM_g8 (cy : Nat → ClassId) (ad : Nat → Nat) (σ : St_) : (wM cy ad σ)[4]? = some (ad 8, .inl (cy 0, 10, .inl (sM σ 8))) := rfl
theorem wM_g9 (cy : Nat → ClassId) (ad : Nat → Nat) (σ : St_) : (wM cy ad σ)[5]? = some (ad 9, .inl (cy 0, 8, .inl (sM σ 9))) := rfl
theorem wM_g10 (cy : Nat → ClassId) (ad : Nat → Nat) (σ : St_) : (wM cy ad σ)[6]? = some (ad 10, .inl (cy 1, 10, .inl (sM σ 10))) := rfl
theorem wM_g11 (cy : Nat → ClassId) (ad : Nat → Nat) (σ : St_) : (wM cy ad σ)[7]? = some (ad 11, .inl (cy 0, 10, .inl (sM σ 11))) := rfl
theorem wM_g12 (cy : Nat → ClassId) (ad : Nat → Nat) (σ : St_) : (wM cy ad σ)[8]? = some (ad 12, .inl (cy 0, 10, .inl (sM σ 12))) := rfl
theorem wM_g13 (cy : Nat → ClassId) (ad : Nat → Nat) (σ : St_) : (wM cy ad σ)[9]? = some (ad 13, .inl (cy 0, 10, .inl (sM σ 13))) := rfl
theorem wM_g14 (cy : Nat → ClassId) (ad : Nat → Nat) (σ : St_) : (wM cy ad σ)[10]? = some (ad 14, .inl (cy 0, 10, .inl (sM σ 14))) := rfl
theorem wM_g15 (cy : Nat → ClassId) (ad : Nat → Nat) (σ : St_) : (wM cy ad σ)[11]? = some (ad 15, .inl (cy 0, 10, .inl (sM σ 15))) := rfl
theorem wM_g16 (cy : Nat → ClassId) (ad : Nat → Nat) (σ : St_) : (wM cy ad σ)[12]? = some (ad 16, .inl (cy 1, 100, .inl (sM σ 16))) := rfl
theorem wM_g17 (cy : Nat → ClassId) (ad : Nat → Nat) (σ : St_) : (wM cy ad σ)[13]? = some (ad 17, .inl (cy 1, 100, .inl (sM σ 17))) := rfl
theorem wM_g18 (cy : Nat → ClassId) (ad : Nat → Nat) (σ : St_) : (wM cy ad σ)[14]? = some (ad 18, .inl (cy 1, 100, .inl (sM σ 18))) := rfl
theorem wM_g19 (cy : Nat → ClassId) (ad : Nat → Nat) (σ : St_) : (wM cy ad σ)[15]? = some (ad 19, .inl (cy 0, 100, .inl (sM σ 19))) := rfl
theorem wM_g20 (cy : Nat → ClassId) (ad : Nat → Nat) (σ : St_) : (wM cy ad σ)[16]? = some (ad 20, .inl (cy 1, 100, .inl (sM σ 20))) := rfl
theorem wM_g21 (cy : Nat → ClassId) (ad : Nat → Nat) (σ : St_) : (wM cy ad σ)[17]? = some (ad 21, .inl (cy 1, 100, .inl (sM σ 21))) := rfl
theorem wM_g22 (cy : Nat → ClassId) (ad : Nat → Nat) (σ : St_) : (wM cy ad σ)[18]? = some (ad 22, .inl (cy 1, 100, .inl (sM σ 22))) := rfl
theorem wM_g23 (cy : Nat → ClassId) (ad : Nat → Nat) (σ : St_) : (wM cy ad σ)[19]? = some (ad 23, .inl (cy 0, 10, .inl (sM σ 23))) := rfl
theorem wM_g24 (cy : Nat → ClassId) (ad : Nat → Nat) (σ : St_) : (wM cy ad σ)[20]? = some (ad 24, .inl (cy 0, 10, .inl (sM σ 24))) := rfl
theorem wM_g25 (cy : Nat → ClassId) (ad : Nat → Nat) (σ : St_) : (wM cy ad σ)[21]? = some (ad 25, .inl (cy 0, 10, .inl (sM σ 25))) := rfl
theorem wM_g26 (cy : Nat → ClassId) (ad : Nat → Nat) (σ : St_) : (wM cy ad σ)[22]? = some (ad 26, .inl (cy 0, 10, .inl (sM σ 26))) := rfl
theorem wM_g27 (cy : Nat → ClassId) (ad : Nat → Nat) (σ : St_) : (wM cy ad σ)[23]? = some (ad 27, .inl (cy 0, 20, .inl (sM σ 27))) := rfl
theorem wM_g28 (cy : Nat → ClassId) (ad : Nat → Nat) (σ : St_) : (wM cy ad σ)[24]? = some (ad 28, .inl (cy 0, 10, .inl (sM σ 28))) := rfl
theorem wM_g29 (cy : Nat → ClassId) (ad : Nat → Nat) (σ : St_) : (wM cy ad σ)[25]? = some (ad 29, .inr (6, [.ref (ad 0), .int (sS σ 1), .int (sS σ 2), .int (sS σ 3), .int (sS σ 4), .ref (ad 5), .ref (ad 6), .ref (ad 7), .ref (ad 8), .ref (ad 9), .ref (ad 10), .ref (ad 11), .ref (ad 12), .ref (ad 13), .ref (ad 14), .ref (ad 15), .ref (ad 16), .ref (ad 17), .ref (ad 18), .ref (ad 19), .ref (ad 20), .ref (ad 21), .ref (ad 22), .ref (ad 23), .ref (ad 24), .ref (ad 25), .ref (ad 26), .ref (ad 27), .ref (ad 28)])) := rfl
theorem wM_a0 (cy : Nat → ClassId) (ad : Nat → Nat) (σ : St_) (f : Nat → Int32) : (wM cy ad σ).set 0 (ad 0, .inl (cy 2, 60, .inl f)) = wM cy ad (uA σ 0 f) := rfl
theorem wM_a5 (cy : Nat → ClassId) (ad : Nat → Nat) (σ : St_) (f : Nat → Int32) : (wM cy ad σ).set 1 (ad 5, .inl (cy 0, 6, .inl f)) = wM cy ad (uA σ 5 f) := rfl
theorem wM_a6 (cy : Nat → ClassId) (ad : Nat → Nat) (σ : St_) (f : Nat → Int32) : (wM cy ad σ).set 2 (ad 6, .inl (cy 0, 6, .inl f)) = wM cy ad (uA σ 6 f) := rfl
theorem wM_a7 (cy : Nat → ClassId) (ad : Nat → Nat) (σ : St_) (f : Nat → Int32) : (wM cy ad σ).set 3 (ad 7, .inl (cy 0, 10, .inl f)) = wM cy ad (uA σ 7 f) := rfl
theorem wM_a8 (cy : Nat → ClassId) (ad : Nat → Nat) (σ : St_) (f : Nat → Int32) : (wM cy ad σ).set 4 (ad 8, .inl (cy 0, 10, .inl f)) = wM cy ad (uA σ 8 f) := rfl
theorem wM_a9 (cy : Nat → ClassId) (ad : Nat → Nat) (σ : St_) (f : Nat → Int32) : (wM cy ad σ).set 5 (ad 9, .inl (cy 0, 8, .inl f)) = wM cy ad (uA σ 9 f) := rfl
theorem wM_a10 (cy : Nat → ClassId) (ad : Nat → Nat) (σ : St_) (f : Nat → Int32) : (wM cy ad σ).set 6 (ad 10, .inl (cy 1, 10, .inl f)) = wM cy ad (uA σ 10 f) := rfl
theorem wM_a11 (cy : Nat → ClassId) (ad : Nat → Nat) (σ : St_) (f : Nat → Int32) : (wM cy ad σ).set 7 (ad 11, .inl (cy 0, 10, .inl f)) = wM cy ad (uA σ 11 f) := rfl
theorem wM_a12 (cy : Nat → ClassId) (ad : Nat → Nat) (σ : St_) (f : Nat → Int32) : (wM cy ad σ).set 8 (ad 12, .inl (cy 0, 10, .inl f)) = wM cy ad (uA σ 12 f) := rfl
theorem wM_a13 (cy : Nat → ClassId) (ad : Nat → Nat) (σ : St_) (f : Nat → Int32) : (wM cy ad σ).set 9 (ad 13, .inl (cy 0, 10, .inl f)) = wM cy ad (uA σ 13 f) := rfl
theorem wM_a14 (cy : Nat → ClassId) (ad : Nat → Nat) (σ : St_) (f : Nat → Int32) : (wM cy ad σ).set 10 (ad 14, .inl (cy 0, 10, .inl f)) = wM cy ad (uA σ 14 f) := rfl
theorem wM_a15 (cy : Nat → ClassId) (ad : Nat → Nat) (σ : St_) (f : Nat → Int32) : (wM cy ad σ).set 11 (ad 15, .inl (cy 0, 10, .inl f)) = wM cy ad (uA σ 15 f) := rfl
theorem wM_a16 (cy : Nat → ClassId) (ad : Nat → Nat) (σ : St_) (f : Nat → Int32) : (wM cy ad σ).set 12 (ad 16, .inl (cy 1, 100, .inl f)) = wM cy ad (uA σ 16 f) := rfl
theorem wM_a17 (cy : Nat → ClassId) (ad : Nat → Nat) (σ : St_) (f : Nat → Int32) : (wM cy ad σ).set 13 (ad 17, .inl (cy 1, 100, .inl f)) = wM cy ad (uA σ 17 f) := rfl
theorem wM_a18 (cy : Nat → ClassId) (ad : Nat → Nat) (σ : St_) (f : Nat → Int32) : (wM cy ad σ).set 14 (ad 18, .inl (cy 1, 100, .inl f)) = wM cy ad (uA σ 18 f) := rfl
theorem wM_a19 (cy : Nat → ClassId) (ad : Nat → Nat) (σ : St_) (f : Nat → Int32) : (wM cy ad σ).set 15 (ad 19, .inl (cy 0, 100, .inl f)) = wM cy ad (uA σ 19 f) := rfl
theorem wM_a20 (cy : Nat → ClassId) (ad : Nat → Nat) (σ : St_) (f : Nat → Int32) : (wM cy ad σ).set 16 (ad 20, .inl (cy 1, 100, .inl f)) = wM cy ad (uA σ 20 f) := rfl
theorem wM_a21 (cy : Nat → ClassId) (ad : Nat → Nat) (σ : St_) (f : Nat → Int32) : (wM cy ad σ).set 17 (ad 21, .inl (cy 1, 100, .inl f)) = wM cy ad (uA σ 21 f) := rfl
theorem wM_a22 (cy : Nat → ClassId) (ad : Nat → Nat) (σ : St_) (f : Nat → Int32) : (wM cy ad σ).set 18 (ad 22, .inl (cy 1, 100, .inl f)) = wM cy ad (uA σ 22 f) := rfl
theorem wM_a23 (cy : Nat → ClassId) (ad : Nat → Nat) (σ : St_) (f : Nat → Int32) : (wM cy ad σ).set 19 (ad 23, .inl (cy 0, 10, .inl f)) = wM cy ad (uA σ 23 f) := rfl
theorem wM_a24 (cy : Nat → ClassId) (ad : Nat → Nat) (σ : St_) (f : Nat → Int32) : (wM cy ad σ).set 20 (ad 24, .inl (cy 0, 10, .inl f)) = wM cy ad (uA σ 24 f) := rfl
theorem wM_a25 (cy : Nat → ClassId) (ad : Nat → Nat) (σ : St_) (f : Nat → Int32) : (wM cy ad σ).set 21 (ad 25, .inl (cy 0, 10, .inl f)) = wM cy ad (uA σ 25 f) := rfl
theorem wM_a26 (cy : Nat → ClassId) (ad : Nat → Nat) (σ : St_) (f : Nat → Int32) : (wM cy ad σ).set 22 (ad 26, .inl (cy 0, 10, .inl f)) = wM cy ad (uA σ 26 f) := rfl
theorem wM_a27 (cy : Nat → ClassId) (ad : Nat → Nat) (σ : St_) (f : Nat → Int32) : (wM cy ad σ).set 23 (ad 27, .inl (cy 0, 20, .inl f)) = wM cy ad (uA σ 27 f) := rfl
theorem wM_a28 (cy : Nat → ClassId) (ad : Nat → Nat) (σ : St_) (f : Nat → Int32) : (wM cy ad σ).set 24 (ad 28, .inl (cy 0, 10, .inl f)) = wM cy ad (uA σ 28 f) := rfl
theorem wM_s1 (cy : Nat → ClassId) (ad : Nat → Nat) (σ : St_) (v : Int32) : (wM cy ad σ).set 25 (ad 29, .inr (6, [.ref (ad 0), .int (sS σ 1), .int (sS σ 2), .int (sS σ 3), .int (sS σ 4), .ref (ad 5), .ref (ad 6), .ref (ad 7), .ref (ad 8), .ref (ad 9), .ref (ad 10), .ref (ad 11), .ref (ad 12), .ref (ad 13), .ref (ad 14), .ref (ad 15), .ref (ad 16), .ref (ad 17), .ref (ad 18), .ref (ad 19), .ref (ad 20), .ref (ad 21), .ref (ad 22), .ref (ad 23), .ref (ad 24), .ref (ad 25), .ref (ad 26), .ref (ad 27), .ref (ad 28)].set 1 (.int v))) = wM cy ad (uS σ 1 v) := rfl
theorem wM_s2 (cy : Nat → ClassId) (ad : Nat → Nat) (σ : St_) (v : Int32) : (wM cy ad σ).set 25 (ad 29, .inr (6, [.ref (ad 0), .int (sS σ 1), .int (sS σ 2), .int (sS σ 3), .int (sS σ 4), .ref (ad 5), .ref (ad 6), .ref (ad 7), .ref (ad 8), .ref (ad 9), .ref (ad 10), .ref (ad 11), .ref (ad 12), .ref (ad 13), .ref (ad 14), .ref (ad 15), .ref (ad 16), .ref (ad 17), .ref (ad 18), .ref (ad 19), .ref (ad 20), .ref (ad 21), .ref (ad 22), .ref (ad 23), .ref (ad 24), .ref (ad 25), .ref (ad 26), .ref (ad 27), .ref (ad 28)].set 2 (.int v))) = wM cy ad (uS σ 2 v) := rfl
theorem wM_s3 (cy : Nat → ClassId) (ad : Nat → Nat) (σ : St_) (v : Int32) : (wM cy ad σ).set 25 (ad 29, .inr (6, [.ref (ad 0), .int (sS σ 1), .int (sS σ 2), .int (sS σ 3), .int (sS σ 4), .ref (ad 5), .ref (ad 6), .ref (ad 7), .ref (ad 8), .ref (ad 9), .ref (ad 10), .ref (ad 11), .ref (ad 12), .ref (ad 13), .ref (ad 14), .ref (ad 15), .ref (ad 16), .ref (ad 17), .ref (ad 18), .ref (ad 19), .ref (ad 20), .ref (ad 21), .ref (ad 22), .ref (ad 23), .ref (ad 24), .ref (ad 25), .ref (ad 26), .ref (ad 27), .ref (ad 28)].set 3 (.int v))) = wM cy ad (uS σ 3 v) := rfl
theorem wM_s4 (cy : Nat → ClassId) (ad : Nat → Nat) (σ : St_) (v : Int32) : (wM cy ad σ).set 25 (ad 29, .inr (6, [.ref (ad 0), .int (sS σ 1), .int (sS σ 2), .int (sS σ 3), .int (sS σ 4), .ref (ad 5), .ref (ad 6), .ref (ad 7), .ref (ad 8), .ref (ad 9), .ref (ad 10), .ref (ad 11), .ref (ad 12), .ref (ad 13), .ref (ad 14), .ref (ad 15), .ref (ad 16), .ref (ad 17), .ref (ad 18), .ref (ad 19), .ref (ad 20), .ref (ad 21), .ref (ad 22), .ref (ad 23), .ref (ad 24), .ref (ad 25), .ref (ad 26), .ref (ad 27), .ref (ad 28)].set 4 (.int v))) = wM cy ad (uS σ 4 v) := rfl
