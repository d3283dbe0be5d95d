set_option maxHeartbeats 4000000 in
set_option maxRecDepth 20000 in
theorem lc_feed {p : Program} {l : Launch} {e : Env} {s : State} {m : MethodId} {below : List Frame} {meth : Method} {c : Code} {D : va_G} {cy : Nat → ClassId} {Q : State → Prop} {b L : Nat} {xs : Nat → Int32} {ad fad adm : Nat → Nat} {σx σm : St_} {n k i : Nat} (C : vv_X p s m #[Value.ref b] meth c D (tysW cy) (fun q : Nat => s.heap.size ≤ q) 4 cL_law RL wsL_law) (hE : eI (fun q : Nat => s.heap.size ≤ q) s) (hX : va_X b L xs s s.heap) (hbl : b < s.heap.size) (hbA : ¬ (fun q : Nat => s.heap.size ≤ q) b) (hL : L < 2 ^ 31) (hi : i + 6 ≤ L) (hn : n < 10000) (hk : k < 100000) (hI : Inv_ σx σm)
    (nx : ∀ (n2 k2 : Nat) (fad2 : Nat → Nat) (σx2 σm2 : St_), n2 ≤ n + 1 → k2 ≤ k + 8 → Inv_ σx2 σm2 → vv_ p l e room_1 s m #[Value.ref b] below meth c D (fun q : Nat => s.heap.size ≤ q) 4 Q n2 k2 (wM cy adm σm2 ++ wX cy ad fad2 σx2) [(0, .ref b), (1, .ref (ad 28)), (2, .ref (adm 29)), (3, .int (nI i))] 716 []) :
    vv_ p l e room_1 s m #[Value.ref b] below meth c D (fun q : Nat => s.heap.size ≤ q) 4 Q n k (wM cy adm σm ++ wX cy ad fad σx) [(0, .ref b), (1, .ref (ad 28)), (2, .ref (adm 29)), (3, .int (nI i))] 120 [] := by
  obtain ⟨r, σx2, σm2, h1, h2, h3⟩ := T_feed hI (xs (i + 1)) (xs (i + 2)) (xs (i + 3)) (xs (i + 4)) (xs (i + 5))
  refine vv_aload_n C dL_law_120 1 rfl ?_
  refine vv_aload_n C dL_law_121 0 rfl ?_
  refine vv_iload_n C dL_law_122 3 rfl ?_
  refine vv_iconst (v := 1) C dL_law_123 (by decide) ?_
  refine vv_iadd C dL_law_124 ?_
  refine vv_sld C hX hbl hbA hL (i + 1) (by omega) (ix_1 i) dL_law_125 ?_
  refine vv_aload_n C dL_law_126 0 rfl ?_
  refine vv_iload_n C dL_law_127 3 rfl ?_
  refine vv_iconst (v := 2) C dL_law_128 (by decide) ?_
  refine vv_iadd C dL_law_129 ?_
  refine vv_sld C hX hbl hbA hL (i + 2) (by omega) (ix_2 i) dL_law_130 ?_
  refine vv_aload_n C dL_law_131 0 rfl ?_
  refine vv_iload_n C dL_law_132 3 rfl ?_
  refine vv_iconst (v := 3) C dL_law_133 (by decide) ?_
  refine vv_iadd C dL_law_134 ?_
  refine vv_sld C hX hbl hbA hL (i + 3) (by omega) (ix_3 i) dL_law_135 ?_
  refine vv_aload_n C dL_law_136 0 rfl ?_
  refine vv_iload_n C dL_law_137 3 rfl ?_
  refine vv_iconst (v := 4) C dL_law_138 (by decide) ?_
  refine vv_iadd C dL_law_139 ?_
  refine vv_sld C hX hbl hbA hL (i + 4) (by omega) (ix_4 i) dL_law_140 ?_
  refine vv_aload_n C dL_law_141 0 rfl ?_
  refine vv_iload_n C dL_law_142 3 rfl ?_
  refine vv_iconst (v := 5) C dL_law_143 (by decide) ?_
  refine vv_iadd C dL_law_144 ?_
  refine vv_sld C hX hbl hbA hL (i + 5) (by omega) (ix_5 i) dL_law_145 ?_
  refine vv_callR (wr := (wM cy adm σm)) (wc := (wX cy ad fad σx)) (wd := (wX cy ad fad σx2)) rfl C eX_ok hE.1 [.int (xs (i + 1)), .int (xs (i + 2)), .int (xs (i + 3)), .int (xs (i + 4)), .int (xs (i + 5))] [] 5 (kX5_feed l D cy ad fad (xs (i + 1)) (xs (i + 2)) (xs (i + 3)) (xs (i + 4)) (xs (i + 5)) σx (r, σx2) h1) gL_law_X5_feed rfl rfl rfl (by decide +kernel) ⟨by decide, by decide⟩ 28 (wX_g28 cy ad fad σx) rfl rfl rfl (Nat.le_of_ble_eq_true rfl) dL_law_146 ⟨by show n ≤ 600000; omega, by show k ≤ 7302250; omega⟩ ?_
  refine vv_swap ?_
  refine vv_aload_n C dL_law_149 2 rfl ?_
  refine vv_aload_n C dL_law_150 0 rfl ?_
  refine vv_iload_n C dL_law_151 3 rfl ?_
  refine vv_iconst (v := 1) C dL_law_152 (by decide) ?_
  refine vv_iadd C dL_law_153 ?_
  refine vv_sld C hX hbl hbA hL (i + 1) (by omega) (ix_1 i) dL_law_154 ?_
  refine vv_aload_n C dL_law_155 0 rfl ?_
  refine vv_iload_n C dL_law_156 3 rfl ?_
  refine vv_iconst (v := 2) C dL_law_157 (by decide) ?_
  refine vv_iadd C dL_law_158 ?_
  refine vv_sld C hX hbl hbA hL (i + 2) (by omega) (ix_2 i) dL_law_159 ?_
  refine vv_aload_n C dL_law_160 0 rfl ?_
  refine vv_iload_n C dL_law_161 3 rfl ?_
  refine vv_iconst (v := 3) C dL_law_162 (by decide) ?_
  refine vv_iadd C dL_law_163 ?_
  refine vv_sld C hX hbl hbA hL (i + 3) (by omega) (ix_3 i) dL_law_164 ?_
  refine vv_aload_n C dL_law_165 0 rfl ?_
  refine vv_iload_n C dL_law_166 3 rfl ?_
  refine vv_iconst (v := 4) C dL_law_167 (by decide) ?_
  refine vv_iadd C dL_law_168 ?_
  refine vv_sld C hX hbl hbA hL (i + 4) (by omega) (ix_4 i) dL_law_169 ?_
  refine vv_aload_n C dL_law_170 0 rfl ?_
  refine vv_iload_n C dL_law_171 3 rfl ?_
  refine vv_iconst (v := 5) C dL_law_172 (by decide) ?_
  refine vv_iadd C dL_law_173 ?_
  refine vv_sld C hX hbl hbA hL (i + 5) (by omega) (ix_5 i) dL_law_174 ?_
  refine vv_callR (wr := (wX cy ad fad σx2)) (wc := (wM cy adm σm)) (wd := (wM cy adm σm2)) rfl C en_ok trivial [.int (xs (i + 1)), .int (xs (i + 2)), .int (xs (i + 3)), .int (xs (i + 4)), .int (xs (i + 5))] [.int r] 5 (kX6_feed l D cy adm (xs (i + 1)) (xs (i + 2)) (xs (i + 3)) (xs (i + 4)) (xs (i + 5)) σm (r, σm2) h2) gL_law_X6_feed rfl rfl rfl (by decide +kernel) ⟨by decide, by decide⟩ 25 (wM_g29 cy adm σm) rfl rfl rfl (Nat.le_of_ble_eq_true rfl) dL_law_175 ⟨by show n ≤ 600000; omega, by show k ≤ 7302250; omega⟩ ?_
  refine vv_swap ?_
  refine vv_icmp_eqT (tgt := 716) C dL_law_178 (by decide) ?_
  exact nx n k fad σx2 σm2 (by omega) (by omega) h3
set_option maxHeartbeats 4000000 in
set_option maxRecDepth 20000 in
theorem lc_rules {p : Program} {l : Launch} {e : Env} {s : State} {m : MethodId} {below : List Frame} {meth : Method} {c : Code} {D : va_G} {cy : Nat → ClassId} {Q : State → Prop} {b L : Nat} {xs : Nat → Int32} {ad fad adm : Nat → Nat} {σx σm : St_} {n k i : Nat} (C : vv_X p s m #[Value.ref b] meth c D (tysW cy) (fun q : Nat => s.heap.size ≤ q) 4 cL_law RL wsL_law) (hE : eI (fun q : Nat => s.heap.size ≤ q) s) (hX : va_X b L xs s s.heap) (hbl : b < s.heap.size) (hbA : ¬ (fun q : Nat => s.heap.size ≤ q) b) (hL : L < 2 ^ 31) (hi : i + 6 ≤ L) (hn : n < 10000) (hk : k < 100000) (hI : Inv_ σx σm)
    (nx : ∀ (n2 k2 : Nat) (fad2 : Nat → Nat) (σx2 σm2 : St_), n2 ≤ n + 1 → k2 ≤ k + 8 → Inv_ σx2 σm2 → vv_ p l e room_1 s m #[Value.ref b] below meth c D (fun q : Nat => s.heap.size ≤ q) 4 Q n2 k2 (wM cy adm σm2 ++ wX cy ad fad2 σx2) [(0, .ref b), (1, .ref (ad 28)), (2, .ref (adm 29)), (3, .int (nI i))] 716 []) :
    vv_ p l e room_1 s m #[Value.ref b] below meth c D (fun q : Nat => s.heap.size ≤ q) 4 Q n k (wM cy adm σm ++ wX cy ad fad σx) [(0, .ref b), (1, .ref (ad 28)), (2, .ref (adm 29)), (3, .int (nI i))] 183 [] := by
  obtain ⟨r, σx2, σm2, h1, h2, h3⟩ := T_rules hI (xs (i + 1))
  refine vv_aload_n C dL_law_183 1 rfl ?_
  refine vv_aload_n C dL_law_184 0 rfl ?_
  refine vv_iload_n C dL_law_185 3 rfl ?_
  refine vv_iconst (v := 1) C dL_law_186 (by decide) ?_
  refine vv_iadd C dL_law_187 ?_
  refine vv_sld C hX hbl hbA hL (i + 1) (by omega) (ix_1 i) dL_law_188 ?_
  refine vv_callR (wr := (wM cy adm σm)) (wc := (wX cy ad fad σx)) (wd := (wX cy ad fad σx2)) rfl C eX_ok hE.1 [.int (xs (i + 1))] [] 1 (kX5_rules l D cy ad fad (xs (i + 1)) σx (r, σx2) h1) gL_law_X5_rules rfl rfl rfl (by decide +kernel) ⟨by decide, by decide⟩ 28 (wX_g28 cy ad fad σx) rfl rfl rfl (Nat.le_of_ble_eq_true rfl) dL_law_189 ⟨by show n ≤ 600000; omega, by show k ≤ 7302250; omega⟩ ?_
  refine vv_swap ?_
  refine vv_aload_n C dL_law_192 2 rfl ?_
  refine vv_aload_n C dL_law_193 0 rfl ?_
  refine vv_iload_n C dL_law_194 3 rfl ?_
  refine vv_iconst (v := 1) C dL_law_195 (by decide) ?_
  refine vv_iadd C dL_law_196 ?_
  refine vv_sld C hX hbl hbA hL (i + 1) (by omega) (ix_1 i) dL_law_197 ?_
  refine vv_callR (wr := (wX cy ad fad σx2)) (wc := (wM cy adm σm)) (wd := (wM cy adm σm2)) rfl C en_ok trivial [.int (xs (i + 1))] [.int r] 1 (kX6_rules l D cy adm (xs (i + 1)) σm (r, σm2) h2) gL_law_X6_rules rfl rfl rfl (by decide +kernel) ⟨by decide, by decide⟩ 25 (wM_g29 cy adm σm) rfl rfl rfl (Nat.le_of_ble_eq_true rfl) dL_law_198 ⟨by show n ≤ 600000; omega, by show k ≤ 7302250; omega⟩ ?_
  refine vv_swap ?_
  refine vv_icmp_eqT (tgt := 716) C dL_law_201 (by decide) ?_
  exact nx n k fad σx2 σm2 (by omega) (by omega) h3
set_option maxHeartbeats 4000000 in
set_option maxRecDepth 20000 in
theorem lc_farm {p : Program} {l : Launch} {e : Env} {s : State} {m : MethodId} {below : List Frame} {meth : Method} {c : Code} {D : va_G} {cy : Nat → ClassId} {Q : State → Prop} {b L : Nat} {xs : Nat → Int32} {ad fad adm : Nat → Nat} {σx σm : St_} {n k i : Nat} (C : vv_X p s m #[Value.ref b] meth c D (tysW cy) (fun q : Nat => s.heap.size ≤ q) 4 cL_law RL wsL_law) (hE : eI (fun q : Nat => s.heap.size ≤ q) s) (hX : va_X b L xs s s.heap) (hbl : b < s.heap.size) (hbA : ¬ (fun q : Nat => s.heap.size ≤ q) b) (hL : L < 2 ^ 31) (hi : i + 6 ≤ L) (hn : n < 10000) (hk : k < 100000) (hI : Inv_ σx σm)
    (nx : ∀ (n2 k2 : Nat) (fad2 : Nat → Nat) (σx2 σm2 : St_), n2 ≤ n + 1 → k2 ≤ k + 8 → Inv_ σx2 σm2 → vv_ p l e room_1 s m #[Value.ref b] below meth c D (fun q : Nat => s.heap.size ≤ q) 4 Q n2 k2 (wM cy adm σm2 ++ wX cy ad fad2 σx2) [(0, .ref b), (1, .ref (ad 28)), (2, .ref (adm 29)), (3, .int (nI i))] 716 []) :
    vv_ p l e room_1 s m #[Value.ref b] below meth c D (fun q : Nat => s.heap.size ≤ q) 4 Q n k (wM cy adm σm ++ wX cy ad fad σx) [(0, .ref b), (1, .ref (ad 28)), (2, .ref (adm 29)), (3, .int (nI i))] 206 [] := by
  obtain ⟨r, σx2, σm2, h1, h2, h3⟩ := T_farm hI (xs (i + 1)) (xs (i + 2))
  refine vv_aload_n C dL_law_206 1 rfl ?_
  refine vv_aload_n C dL_law_207 0 rfl ?_
  refine vv_iload_n C dL_law_208 3 rfl ?_
  refine vv_iconst (v := 1) C dL_law_209 (by decide) ?_
  refine vv_iadd C dL_law_210 ?_
  refine vv_sld C hX hbl hbA hL (i + 1) (by omega) (ix_1 i) dL_law_211 ?_
  refine vv_aload_n C dL_law_212 0 rfl ?_
  refine vv_iload_n C dL_law_213 3 rfl ?_
  refine vv_iconst (v := 2) C dL_law_214 (by decide) ?_
  refine vv_iadd C dL_law_215 ?_
  refine vv_sld C hX hbl hbA hL (i + 2) (by omega) (ix_2 i) dL_law_216 ?_
  refine vv_callF (wr := (wM cy adm σm)) (wc := (wX cy ad fad σx)) rfl C eI_ok hE [.int (xs (i + 1)), .int (xs (i + 2))] [] 2 (kX5_farm l D cy ad fad (xs (i + 1)) (xs (i + 2)) σx (r, σx2) h1) gL_law_X5_farm rfl rfl rfl (by decide +kernel) ⟨by decide, by decide⟩ 28 (wX_g28 cy ad fad σx) rfl rfl rfl (Nat.le_of_ble_eq_true rfl) dL_law_217 ⟨by show n + 1 ≤ 600000; omega, by show k + 8 ≤ 7302250; omega⟩ (fun fad2 => ?_)
  refine vv_swap ?_
  refine vv_aload_n C dL_law_220 2 rfl ?_
  refine vv_aload_n C dL_law_221 0 rfl ?_
  refine vv_iload_n C dL_law_222 3 rfl ?_
  refine vv_iconst (v := 1) C dL_law_223 (by decide) ?_
  refine vv_iadd C dL_law_224 ?_
  refine vv_sld C hX hbl hbA hL (i + 1) (by omega) (ix_1 i) dL_law_225 ?_
  refine vv_aload_n C dL_law_226 0 rfl ?_
  refine vv_iload_n C dL_law_227 3 rfl ?_
  refine vv_iconst (v := 2) C dL_law_228 (by decide) ?_
  refine vv_iadd C dL_law_229 ?_
  refine vv_sld C hX hbl hbA hL (i + 2) (by omega) (ix_2 i) dL_law_230 ?_
  refine vv_callR (wr := (wX cy ad fad2 σx2)) (wc := (wM cy adm σm)) (wd := (wM cy adm σm2)) rfl C en_ok trivial [.int (xs (i + 1)), .int (xs (i + 2))] [.int r] 2 (kX6_farm l D cy adm (xs (i + 1)) (xs (i + 2)) σm (r, σm2) h2) gL_law_X6_farm rfl rfl rfl (by decide +kernel) ⟨by decide, by decide⟩ 25 (wM_g29 cy adm σm) rfl rfl rfl (Nat.le_of_ble_eq_true rfl) dL_law_231 ⟨by show (n + 1) ≤ 600000; omega, by show (k + 8) ≤ 7302250; omega⟩ ?_
  refine vv_swap ?_
  refine vv_icmp_eqT (tgt := 716) C dL_law_234 (by decide) ?_
  exact nx (n + 1) (k + 8) fad2 σx2 σm2 (by omega) (by omega) h3
set_option maxHeartbeats 4000000 in
set_option maxRecDepth 20000 in
theorem lc_buys {p : Program} {l : Launch} {e : Env} {s : State} {m : MethodId} {below : List Frame} {meth : Method} {c : Code} {D : va_G} {cy : Nat → ClassId} {Q : State → Prop} {b L : Nat} {xs : Nat → Int32} {ad fad adm : Nat → Nat} {σx σm : St_} {n k i : Nat} (C : vv_X p s m #[Value.ref b] meth c D (tysW cy) (fun q : Nat => s.heap.size ≤ q) 4 cL_law RL wsL_law) (hE : eI (fun q : Nat => s.heap.size ≤ q) s) (hX : va_X b L xs s s.heap) (hbl : b < s.heap.size) (hbA : ¬ (fun q : Nat => s.heap.size ≤ q) b) (hL : L < 2 ^ 31) (hi : i + 6 ≤ L) (hn : n < 10000) (hk : k < 100000) (hI : Inv_ σx σm)
    (nx : ∀ (n2 k2 : Nat) (fad2 : Nat → Nat) (σx2 σm2 : St_), n2 ≤ n + 1 → k2 ≤ k + 8 → Inv_ σx2 σm2 → vv_ p l e room_1 s m #[Value.ref b] below meth c D (fun q : Nat => s.heap.size ≤ q) 4 Q n2 k2 (wM cy adm σm2 ++ wX cy ad fad2 σx2) [(0, .ref b), (1, .ref (ad 28)), (2, .ref (adm 29)), (3, .int (nI i))] 716 []) :
    vv_ p l e room_1 s m #[Value.ref b] below meth c D (fun q : Nat => s.heap.size ≤ q) 4 Q n k (wM cy adm σm ++ wX cy ad fad σx) [(0, .ref b), (1, .ref (ad 28)), (2, .ref (adm 29)), (3, .int (nI i))] 239 [] := by
  obtain ⟨r, σx2, σm2, h1, h2, h3⟩ := T_buys0 hI (xs (i + 1)) (xs (i + 2)) (b2_ (xs (i + 3))) (b2_01 (xs (i + 3)))
  refine vv_aload_n C dL_law_239 1 rfl ?_
  refine vv_aload_n C dL_law_240 0 rfl ?_
  refine vv_iload_n C dL_law_241 3 rfl ?_
  refine vv_iconst (v := 1) C dL_law_242 (by decide) ?_
  refine vv_iadd C dL_law_243 ?_
  refine vv_sld C hX hbl hbA hL (i + 1) (by omega) (ix_1 i) dL_law_244 ?_
  refine vv_aload_n C dL_law_245 0 rfl ?_
  refine vv_iload_n C dL_law_246 3 rfl ?_
  refine vv_iconst (v := 2) C dL_law_247 (by decide) ?_
  refine vv_iadd C dL_law_248 ?_
  refine vv_sld C hX hbl hbA hL (i + 2) (by omega) (ix_2 i) dL_law_249 ?_
  refine vv_aload_n C dL_law_250 0 rfl ?_
  refine vv_iload_n C dL_law_251 3 rfl ?_
  refine vv_iconst (v := 3) C dL_law_252 (by decide) ?_
  refine vv_iadd C dL_law_253 ?_
  refine vv_sld C hX hbl hbA hL (i + 3) (by omega) (ix_3 i) dL_law_254 ?_
  refine vv_ne0 C dL_law_255 dL_law_258 dL_law_259 dL_law_262 ?_
  refine vv_callR (wr := (wM cy adm σm)) (wc := (wX cy ad fad σx)) (wd := (wX cy ad fad σx2)) rfl C eX_ok hE.1 [.int (xs (i + 1)), .int (xs (i + 2)), .int (b2_ (xs (i + 3)))] [] 3 (kX5_buys l D cy ad fad (xs (i + 1)) (xs (i + 2)) (b2_ (xs (i + 3))) σx (r, σx2) h1) gL_law_X5_buys rfl rfl rfl (by decide +kernel) ⟨by decide, by decide⟩ 28 (wX_g28 cy ad fad σx) rfl rfl rfl (Nat.le_of_ble_eq_true rfl) dL_law_263 ⟨by show n ≤ 600000; omega, by show k ≤ 7302250; omega⟩ ?_
  refine vv_swap ?_
  refine vv_aload_n C dL_law_266 2 rfl ?_
  refine vv_aload_n C dL_law_267 0 rfl ?_
  refine vv_iload_n C dL_law_268 3 rfl ?_
  refine vv_iconst (v := 1) C dL_law_269 (by decide) ?_
  refine vv_iadd C dL_law_270 ?_
  refine vv_sld C hX hbl hbA hL (i + 1) (by omega) (ix_1 i) dL_law_271 ?_
  refine vv_aload_n C dL_law_272 0 rfl ?_
  refine vv_iload_n C dL_law_273 3 rfl ?_
  refine vv_iconst (v := 2) C dL_law_274 (by decide) ?_
  refine vv_iadd C dL_law_275 ?_
  refine vv_sld C hX hbl hbA hL (i + 2) (by omega) (ix_2 i) dL_law_276 ?_
  refine vv_aload_n C dL_law_277 0 rfl ?_
  refine vv_iload_n C dL_law_278 3 rfl ?_
  refine vv_iconst (v := 3) C dL_law_279 (by decide) ?_
  refine vv_iadd C dL_law_280 ?_
  refine vv_sld C hX hbl hbA hL (i + 3) (by omega) (ix_3 i) dL_law_281 ?_
  refine vv_ne0 C dL_law_282 dL_law_285 dL_law_286 dL_law_289 ?_
  refine vv_callR (wr := (wX cy ad fad σx2)) (wc := (wM cy adm σm)) (wd := (wM cy adm σm2)) rfl C en_ok trivial [.int (xs (i + 1)), .int (xs (i + 2)), .int (b2_ (xs (i + 3)))] [.int r] 3 (kX6_buys l D cy adm (xs (i + 1)) (xs (i + 2)) (b2_ (xs (i + 3))) σm (r, σm2) h2) gL_law_X6_buys rfl rfl rfl (by decide +kernel) ⟨by decide, by decide⟩ 25 (wM_g29 cy adm σm) rfl rfl rfl (Nat.le_of_ble_eq_true rfl) dL_law_290 ⟨by show n ≤ 600000; omega, by show k ≤ 7302250; omega⟩ ?_
  refine vv_swap ?_
  refine vv_icmp_eqT (tgt := 716) C dL_law_293 (by decide) ?_
  exact nx n k fad σx2 σm2 (by omega) (by omega) h3
set_option maxHeartbeats 4000000 in
set_option maxRecDepth 20000 in
theorem lc_weight {p : Program} {l : Launch} {e : Env} {s : State} {m : MethodId} {below : List Frame} {meth : Method} {c : Code} {D : va_G} {cy : Nat → ClassId} {Q : State → Prop} {b L : Nat} {xs : Nat → Int32} {ad fad adm : Nat → Nat} {σx σm : St_} {n k i : Nat} (C : vv_X p s m #[Value.ref b] meth c D (tysW cy) (fun q : Nat => s.heap.size ≤ q) 4 cL_law RL wsL_law) (hE : eI (fun q : Nat => s.heap.size ≤ q) s) (hX : va_X b L xs s s.heap) (hbl : b < s.heap.size) (hbA : ¬ (fun q : Nat => s.heap.size ≤ q) b) (hL : L < 2 ^ 31) (hi : i + 6 ≤ L) (hn : n < 10000) (hk : k < 100000) (hI : Inv_ σx σm)
    (nx : ∀ (n2 k2 : Nat) (fad2 : Nat → Nat) (σx2 σm2 : St_), n2 ≤ n + 1 → k2 ≤ k + 8 → Inv_ σx2 σm2 → vv_ p l e room_1 s m #[Value.ref b] below meth c D (fun q : Nat => s.heap.size ≤ q) 4 Q n2 k2 (wM cy adm σm2 ++ wX cy ad fad2 σx2) [(0, .ref b), (1, .ref (ad 28)), (2, .ref (adm 29)), (3, .int (nI i))] 716 []) :
    vv_ p l e room_1 s m #[Value.ref b] below meth c D (fun q : Nat => s.heap.size ≤ q) 4 Q n k (wM cy adm σm ++ wX cy ad fad σx) [(0, .ref b), (1, .ref (ad 28)), (2, .ref (adm 29)), (3, .int (nI i))] 298 [] := by
  obtain ⟨r, σx2, σm2, h1, h2, h3⟩ := T_weight hI (xs (i + 1)) (xs (i + 2))
  refine vv_aload_n C dL_law_298 1 rfl ?_
  refine vv_aload_n C dL_law_299 0 rfl ?_
  refine vv_iload_n C dL_law_300 3 rfl ?_
  refine vv_iconst (v := 1) C dL_law_301 (by decide) ?_
  refine vv_iadd C dL_law_302 ?_
  refine vv_sld C hX hbl hbA hL (i + 1) (by omega) (ix_1 i) dL_law_303 ?_
  refine vv_aload_n C dL_law_304 0 rfl ?_
  refine vv_iload_n C dL_law_305 3 rfl ?_
  refine vv_iconst (v := 2) C dL_law_306 (by decide) ?_
  refine vv_iadd C dL_law_307 ?_
  refine vv_sld C hX hbl hbA hL (i + 2) (by omega) (ix_2 i) dL_law_308 ?_
  refine vv_callR (wr := (wM cy adm σm)) (wc := (wX cy ad fad σx)) (wd := (wX cy ad fad σx2)) rfl C eX_ok hE.1 [.int (xs (i + 1)), .int (xs (i + 2))] [] 2 (kX5_weight l D cy ad fad (xs (i + 1)) (xs (i + 2)) σx (r, σx2) h1) gL_law_X5_weight rfl rfl rfl (by decide +kernel) ⟨by decide, by decide⟩ 28 (wX_g28 cy ad fad σx) rfl rfl rfl (Nat.le_of_ble_eq_true rfl) dL_law_309 ⟨by show n ≤ 600000; omega, by show k ≤ 7302250; omega⟩ ?_
  refine vv_swap ?_
  refine vv_aload_n C dL_law_312 2 rfl ?_
  refine vv_aload_n C dL_law_313 0 rfl ?_
  refine vv_iload_n C dL_law_314 3 rfl ?_
  refine vv_iconst (v := 1) C dL_law_315 (by decide) ?_
  refine vv_iadd C dL_law_316 ?_
  refine vv_sld C hX hbl hbA hL (i + 1) (by omega) (ix_1 i) dL_law_317 ?_
  refine vv_aload_n C dL_law_318 0 rfl ?_
  refine vv_iload_n C dL_law_319 3 rfl ?_
  refine vv_iconst (v := 2) C dL_law_320 (by decide) ?_
  refine vv_iadd C dL_law_321 ?_
  refine vv_sld C hX hbl hbA hL (i + 2) (by omega) (ix_2 i) dL_law_322 ?_
  refine vv_callR (wr := (wX cy ad fad σx2)) (wc := (wM cy adm σm)) (wd := (wM cy adm σm2)) rfl C en_ok trivial [.int (xs (i + 1)), .int (xs (i + 2))] [.int r] 2 (kX6_weight l D cy adm (xs (i + 1)) (xs (i + 2)) σm (r, σm2) h2) gL_law_X6_weight rfl rfl rfl (by decide +kernel) ⟨by decide, by decide⟩ 25 (wM_g29 cy adm σm) rfl rfl rfl (Nat.le_of_ble_eq_true rfl) dL_law_323 ⟨by show n ≤ 600000; omega, by show k ≤ 7302250; omega⟩ ?_
  refine vv_swap ?_
  refine vv_icmp_eqT (tgt := 716) C dL_law_326 (by decide) ?_
  exact nx n k fad σx2 σm2 (by omega) (by omega) h3
set_option maxHeartbeats 4000000 in
set_option maxRecDepth 20000 in
theorem lc_lay {p : Program} {l : Launch} {e : Env} {s : State} {m : MethodId} {below : List Frame} {meth : Method} {c : Code} {D : va_G} {cy : Nat → ClassId} {Q : State → Prop} {b L : Nat} {xs : Nat → Int32} {ad fad adm : Nat → Nat} {σx σm : St_} {n k i : Nat} (C : vv_X p s m #[Value.ref b] meth c D (tysW cy) (fun q : Nat => s.heap.size ≤ q) 4 cL_law RL wsL_law) (hE : eI (fun q : Nat => s.heap.size ≤ q) s) (hX : va_X b L xs s s.heap) (hbl : b < s.heap.size) (hbA : ¬ (fun q : Nat => s.heap.size ≤ q) b) (hL : L < 2 ^ 31) (hi : i + 6 ≤ L) (hn : n < 10000) (hk : k < 100000) (hI : Inv_ σx σm)
    (nx : ∀ (n2 k2 : Nat) (fad2 : Nat → Nat) (σx2 σm2 : St_), n2 ≤ n + 1 → k2 ≤ k + 8 → Inv_ σx2 σm2 → vv_ p l e room_1 s m #[Value.ref b] below meth c D (fun q : Nat => s.heap.size ≤ q) 4 Q n2 k2 (wM cy adm σm2 ++ wX cy ad fad2 σx2) [(0, .ref b), (1, .ref (ad 28)), (2, .ref (adm 29)), (3, .int (nI i))] 716 []) :
    vv_ p l e room_1 s m #[Value.ref b] below meth c D (fun q : Nat => s.heap.size ≤ q) 4 Q n k (wM cy adm σm ++ wX cy ad fad σx) [(0, .ref b), (1, .ref (ad 28)), (2, .ref (adm 29)), (3, .int (nI i))] 331 [] := by
  obtain ⟨r, σx2, σm2, h1, h2, h3⟩ := T_lay hI 
  refine vv_aload_n C dL_law_331 1 rfl ?_
  refine vv_callR (wr := (wM cy adm σm)) (wc := (wX cy ad fad σx)) (wd := (wX cy ad fad σx2)) rfl C eX_ok hE.1 [] [] 0 (kX5_lay l D cy ad fad  σx (r, σx2) h1) gL_law_X5_lay rfl rfl rfl (by decide +kernel) ⟨by decide, by decide⟩ 28 (wX_g28 cy ad fad σx) rfl rfl rfl (Nat.le_of_ble_eq_true rfl) dL_law_332 ⟨by show n ≤ 600000; omega, by show k ≤ 7302250; omega⟩ ?_
  refine vv_swap ?_
  refine vv_aload_n C dL_law_335 2 rfl ?_
  refine vv_callR (wr := (wX cy ad fad σx2)) (wc := (wM cy adm σm)) (wd := (wM cy adm σm2)) rfl C en_ok trivial [] [.int r] 0 (kX6_lay l D cy adm  σm (r, σm2) h2) gL_law_X6_lay rfl rfl rfl (by decide +kernel) ⟨by decide, by decide⟩ 25 (wM_g29 cy adm σm) rfl rfl rfl (Nat.le_of_ble_eq_true rfl) dL_law_336 ⟨by show n ≤ 600000; omega, by show k ≤ 7302250; omega⟩ ?_
  refine vv_swap ?_
  refine vv_icmp_eqT (tgt := 716) C dL_law_339 (by decide) ?_
  exact nx n k fad σx2 σm2 (by omega) (by omega) h3
set_option maxHeartbeats 4000000 in
set_option maxRecDepth 20000 in
theorem lc_visitor {p : Program} {l : Launch} {e : Env} {s : State} {m : MethodId} {below : List Frame} {meth : Method} {c : Code} {D : va_G} {cy : Nat → ClassId} {Q : State → Prop} {b L : Nat} {xs : Nat → Int32} {ad fad adm : Nat → Nat} {σx σm : St_} {n k i : Nat} (C : vv_X p s m #[Value.ref b] meth c D (tysW cy) (fun q : Nat => s.heap.size ≤ q) 4 cL_law RL wsL_law) (hE : eI (fun q : Nat => s.heap.size ≤ q) s) (hX : va_X b L xs s s.heap) (hbl : b < s.heap.size) (hbA : ¬ (fun q : Nat => s.heap.size ≤ q) b) (hL : L < 2 ^ 31) (hi : i + 6 ≤ L) (hn : n < 10000) (hk : k < 100000) (hI : Inv_ σx σm)
    (nx : ∀ (n2 k2 : Nat) (fad2 : Nat → Nat) (σx2 σm2 : St_), n2 ≤ n + 1 → k2 ≤ k + 8 → Inv_ σx2 σm2 → vv_ p l e room_1 s m #[Value.ref b] below meth c D (fun q : Nat => s.heap.size ≤ q) 4 Q n2 k2 (wM cy adm σm2 ++ wX cy ad fad2 σx2) [(0, .ref b), (1, .ref (ad 28)), (2, .ref (adm 29)), (3, .int (nI i))] 716 []) :
    vv_ p l e room_1 s m #[Value.ref b] below meth c D (fun q : Nat => s.heap.size ≤ q) 4 Q n k (wM cy adm σm ++ wX cy ad fad σx) [(0, .ref b), (1, .ref (ad 28)), (2, .ref (adm 29)), (3, .int (nI i))] 344 [] := by
  obtain ⟨r, h1, h2⟩ := T_visitor hI (xs (i + 1)) (xs (i + 2))
  refine vv_aload_n C dL_law_344 1 rfl ?_
  refine vv_aload_n C dL_law_345 0 rfl ?_
  refine vv_iload_n C dL_law_346 3 rfl ?_
  refine vv_iconst (v := 1) C dL_law_347 (by decide) ?_
  refine vv_iadd C dL_law_348 ?_
  refine vv_sld C hX hbl hbA hL (i + 1) (by omega) (ix_1 i) dL_law_349 ?_
  refine vv_aload_n C dL_law_350 0 rfl ?_
  refine vv_iload_n C dL_law_351 3 rfl ?_
  refine vv_iconst (v := 2) C dL_law_352 (by decide) ?_
  refine vv_iadd C dL_law_353 ?_
  refine vv_sld C hX hbl hbA hL (i + 2) (by omega) (ix_2 i) dL_law_354 ?_
  refine vv_callR (wr := (wM cy adm σm)) (wc := (wX cy ad fad σx)) (wd := (wX cy ad fad σx)) rfl C eX_ok hE.1 [.int (xs (i + 1)), .int (xs (i + 2))] [] 2 (kX5_visitor l D cy ad fad (xs (i + 1)) (xs (i + 2)) σx r h1) gL_law_X5_visitor rfl rfl rfl (by decide +kernel) ⟨by decide, by decide⟩ 28 (wX_g28 cy ad fad σx) rfl rfl rfl (Nat.le_of_ble_eq_true rfl) dL_law_355 ⟨by show n ≤ 600000; omega, by show k ≤ 7302250; omega⟩ ?_
  refine vv_swap ?_
  refine vv_aload_n C dL_law_358 2 rfl ?_
  refine vv_aload_n C dL_law_359 0 rfl ?_
  refine vv_iload_n C dL_law_360 3 rfl ?_
  refine vv_iconst (v := 1) C dL_law_361 (by decide) ?_
  refine vv_iadd C dL_law_362 ?_
  refine vv_sld C hX hbl hbA hL (i + 1) (by omega) (ix_1 i) dL_law_363 ?_
  refine vv_aload_n C dL_law_364 0 rfl ?_
  refine vv_iload_n C dL_law_365 3 rfl ?_
  refine vv_iconst (v := 2) C dL_law_366 (by decide) ?_
  refine vv_iadd C dL_law_367 ?_
  refine vv_sld C hX hbl hbA hL (i + 2) (by omega) (ix_2 i) dL_law_368 ?_
  refine vv_callR (wr := (wX cy ad fad σx)) (wc := (wM cy adm σm)) (wd := (wM cy adm σm)) rfl C en_ok trivial [.int (xs (i + 1)), .int (xs (i + 2))] [.int r] 2 (kX6_visitor l D cy adm (xs (i + 1)) (xs (i + 2)) σm r h2) gL_law_X6_visitor rfl rfl rfl (by decide +kernel) ⟨by decide, by decide⟩ 25 (wM_g29 cy adm σm) rfl rfl rfl (Nat.le_of_ble_eq_true rfl) dL_law_369 ⟨by show n ≤ 600000; omega, by show k ≤ 7302250; omega⟩ ?_
  refine vv_swap ?_
  refine vv_icmp_eqT (tgt := 716) C dL_law_372 (by decide) ?_
  exact nx n k fad σx σm (by omega) (by omega) hI
set_option maxHeartbeats 4000000 in
set_option maxRecDepth 20000 in
theorem lc_tells {p : Program} {l : Launch} {e : Env} {s : State} {m : MethodId} {below : List Frame} {meth : Method} {c : Code} {D : va_G} {cy : Nat → ClassId} {Q : State → Prop} {b L : Nat} {xs : Nat → Int32} {ad fad adm : Nat → Nat} {σx σm : St_} {n k i : Nat} (C : vv_X p s m #[Value.ref b] meth c D (tysW cy) (fun q : Nat => s.heap.size ≤ q) 4 cL_law RL wsL_law) (hE : eI (fun q : Nat => s.heap.size ≤ q) s) (hX : va_X b L xs s s.heap) (hbl : b < s.heap.size) (hbA : ¬ (fun q : Nat => s.heap.size ≤ q) b) (hL : L < 2 ^ 31) (hi : i + 6 ≤ L) (hn : n < 10000) (hk : k < 100000) (hI : Inv_ σx σm)
    (nx : ∀ (n2 k2 : Nat) (fad2 : Nat → Nat) (σx2 σm2 : St_), n2 ≤ n + 1 → k2 ≤ k + 8 → Inv_ σx2 σm2 → vv_ p l e room_1 s m #[Value.ref b] below meth c D (fun q : Nat => s.heap.size ≤ q) 4 Q n2 k2 (wM cy adm σm2 ++ wX cy ad fad2 σx2) [(0, .ref b), (1, .ref (ad 28)), (2, .ref (adm 29)), (3, .int (nI i))] 716 []) :
    vv_ p l e room_1 s m #[Value.ref b] below meth c D (fun q : Nat => s.heap.size ≤ q) 4 Q n k (wM cy adm σm ++ wX cy ad fad σx) [(0, .ref b), (1, .ref (ad 28)), (2, .ref (adm 29)), (3, .int (nI i))] 377 [] := by
  obtain ⟨r, σx2, σm2, h1, h2, h3⟩ := T_tells hI (xs (i + 1)) (xs (i + 2)) (xs (i + 3)) (b2_ (xs (i + 4)))
  refine vv_aload_n C dL_law_377 1 rfl ?_
  refine vv_aload_n C dL_law_378 0 rfl ?_
  refine vv_iload_n C dL_law_379 3 rfl ?_
  refine vv_iconst (v := 1) C dL_law_380 (by decide) ?_
  refine vv_iadd C dL_law_381 ?_
  refine vv_sld C hX hbl hbA hL (i + 1) (by omega) (ix_1 i) dL_law_382 ?_
  refine vv_aload_n C dL_law_383 0 rfl ?_
  refine vv_iload_n C dL_law_384 3 rfl ?_
  refine vv_iconst (v := 2) C dL_law_385 (by decide) ?_
  refine vv_iadd C dL_law_386 ?_
  refine vv_sld C hX hbl hbA hL (i + 2) (by omega) (ix_2 i) dL_law_387 ?_
  refine vv_aload_n C dL_law_388 0 rfl ?_
  refine vv_iload_n C dL_law_389 3 rfl ?_
  refine vv_iconst (v := 3) C dL_law_390 (by decide) ?_
  refine vv_iadd C dL_law_391 ?_
  refine vv_sld C hX hbl hbA hL (i + 3) (by omega) (ix_3 i) dL_law_392 ?_
  refine vv_aload_n C dL_law_393 0 rfl ?_
  refine vv_iload_n C dL_law_394 3 rfl ?_
  refine vv_iconst (v := 4) C dL_law_395 (by decide) ?_
  refine vv_iadd C dL_law_396 ?_
  refine vv_sld C hX hbl hbA hL (i + 4) (by omega) (ix_4 i) dL_law_397 ?_
  refine vv_ne0 C dL_law_398 dL_law_401 dL_law_402 dL_law_405 ?_
  refine vv_callR (wr := (wM cy adm σm)) (wc := (wX cy ad fad σx)) (wd := (wX cy ad fad σx2)) rfl C eX_ok hE.1 [.int (xs (i + 1)), .int (xs (i + 2)), .int (xs (i + 3)), .int (b2_ (xs (i + 4)))] [] 4 (kX5_tells l D cy ad fad (xs (i + 1)) (xs (i + 2)) (xs (i + 3)) (b2_ (xs (i + 4))) σx (r, σx2) h1) gL_law_X5_tells rfl rfl rfl (by decide +kernel) ⟨by decide, by decide⟩ 28 (wX_g28 cy ad fad σx) rfl rfl rfl (Nat.le_of_ble_eq_true rfl) dL_law_406 ⟨by show n ≤ 600000; omega, by show k ≤ 7302250; omega⟩ ?_
  refine vv_swap ?_
  refine vv_aload_n C dL_law_409 2 rfl ?_
  refine vv_aload_n C dL_law_410 0 rfl ?_
  refine vv_iload_n C dL_law_411 3 rfl ?_
  refine vv_iconst (v := 1) C dL_law_412 (by decide) ?_
  refine vv_iadd C dL_law_413 ?_
  refine vv_sld C hX hbl hbA hL (i + 1) (by omega) (ix_1 i) dL_law_414 ?_
  refine vv_aload_n C dL_law_415 0 rfl ?_
  refine vv_iload_n C dL_law_416 3 rfl ?_
  refine vv_iconst (v := 2) C dL_law_417 (by decide) ?_
  refine vv_iadd C dL_law_418 ?_
  refine vv_sld C hX hbl hbA hL (i + 2) (by omega) (ix_2 i) dL_law_419 ?_
  refine vv_aload_n C dL_law_420 0 rfl ?_
  refine vv_iload_n C dL_law_421 3 rfl ?_
  refine vv_iconst (v := 3) C dL_law_422 (by decide) ?_
  refine vv_iadd C dL_law_423 ?_
  refine vv_sld C hX hbl hbA hL (i + 3) (by omega) (ix_3 i) dL_law_424 ?_
  refine vv_aload_n C dL_law_425 0 rfl ?_
  refine vv_iload_n C dL_law_426 3 rfl ?_
  refine vv_iconst (v := 4) C dL_law_427 (by decide) ?_
  refine vv_iadd C dL_law_428 ?_
  refine vv_sld C hX hbl hbA hL (i + 4) (by omega) (ix_4 i) dL_law_429 ?_
  refine vv_ne0 C dL_law_430 dL_law_433 dL_law_434 dL_law_437 ?_
  refine vv_callR (wr := (wX cy ad fad σx2)) (wc := (wM cy adm σm)) (wd := (wM cy adm σm2)) rfl C en_ok trivial [.int (xs (i + 1)), .int (xs (i + 2)), .int (xs (i + 3)), .int (b2_ (xs (i + 4)))] [.int r] 4 (kX6_tells l D cy adm (xs (i + 1)) (xs (i + 2)) (xs (i + 3)) (b2_ (xs (i + 4))) σm (r, σm2) h2) gL_law_X6_tells rfl rfl rfl (by decide +kernel) ⟨by decide, by decide⟩ 25 (wM_g29 cy adm σm) rfl rfl rfl (Nat.le_of_ble_eq_true rfl) dL_law_438 ⟨by show n ≤ 600000; omega, by show k ≤ 7302250; omega⟩ ?_
  refine vv_swap ?_
  refine vv_icmp_eqT (tgt := 716) C dL_law_441 (by decide) ?_
  exact nx n k fad σx2 σm2 (by omega) (by omega) h3
set_option maxHeartbeats 4000000 in
set_option maxRecDepth 20000 in
theorem lc_breaches {p : Program} {l : Launch} {e : Env} {s : State} {m : MethodId} {below : List Frame} {meth : Method} {c : Code} {D : va_G} {cy : Nat → ClassId} {Q : State → Prop} {b L : Nat} {xs : Nat → Int32} {ad fad adm : Nat → Nat} {σx σm : St_} {n k i : Nat} (C : vv_X p s m #[Value.ref b] meth c D (tysW cy) (fun q : Nat => s.heap.size ≤ q) 4 cL_law RL wsL_law) (hE : eI (fun q : Nat => s.heap.size ≤ q) s) (hX : va_X b L xs s s.heap) (hbl : b < s.heap.size) (hbA : ¬ (fun q : Nat => s.heap.size ≤ q) b) (hL : L < 2 ^ 31) (hi : i + 6 ≤ L) (hn : n < 10000) (hk : k < 100000) (hI : Inv_ σx σm)
    (nx : ∀ (n2 k2 : Nat) (fad2 : Nat → Nat) (σx2 σm2 : St_), n2 ≤ n + 1 → k2 ≤ k + 8 → Inv_ σx2 σm2 → vv_ p l e room_1 s m #[Value.ref b] below meth c D (fun q : Nat => s.heap.size ≤ q) 4 Q n2 k2 (wM cy adm σm2 ++ wX cy ad fad2 σx2) [(0, .ref b), (1, .ref (ad 28)), (2, .ref (adm 29)), (3, .int (nI i))] 716 []) :
    vv_ p l e room_1 s m #[Value.ref b] below meth c D (fun q : Nat => s.heap.size ≤ q) 4 Q n k (wM cy adm σm ++ wX cy ad fad σx) [(0, .ref b), (1, .ref (ad 28)), (2, .ref (adm 29)), (3, .int (nI i))] 446 [] := by
  obtain ⟨r, h1, h2⟩ := T_breaches hI (xs (i + 1))
  refine vv_aload_n C dL_law_446 1 rfl ?_
  refine vv_aload_n C dL_law_447 0 rfl ?_
  refine vv_iload_n C dL_law_448 3 rfl ?_
  refine vv_iconst (v := 1) C dL_law_449 (by decide) ?_
  refine vv_iadd C dL_law_450 ?_
  refine vv_sld C hX hbl hbA hL (i + 1) (by omega) (ix_1 i) dL_law_451 ?_
  refine vv_callR (wr := (wM cy adm σm)) (wc := (wX cy ad fad σx)) (wd := (wX cy ad fad σx)) rfl C eX_ok hE.1 [.int (xs (i + 1))] [] 1 (kX5_breaches l D cy ad fad (xs (i + 1)) σx r h1) gL_law_X5_breaches rfl rfl rfl (by decide +kernel) ⟨by decide, by decide⟩ 28 (wX_g28 cy ad fad σx) rfl rfl rfl (Nat.le_of_ble_eq_true rfl) dL_law_452 ⟨by show n ≤ 600000; omega, by show k ≤ 7302250; omega⟩ ?_
  refine vv_swap ?_
  refine vv_aload_n C dL_law_455 2 rfl ?_
  refine vv_aload_n C dL_law_456 0 rfl ?_
  refine vv_iload_n C dL_law_457 3 rfl ?_
  refine vv_iconst (v := 1) C dL_law_458 (by decide) ?_
  refine vv_iadd C dL_law_459 ?_
  refine vv_sld C hX hbl hbA hL (i + 1) (by omega) (ix_1 i) dL_law_460 ?_
  refine vv_callR (wr := (wX cy ad fad σx)) (wc := (wM cy adm σm)) (wd := (wM cy adm σm)) rfl C en_ok trivial [.int (xs (i + 1))] [.int r] 1 (kX6_breaches l D cy adm (xs (i + 1)) σm r h2) gL_law_X6_breaches rfl rfl rfl (by decide +kernel) ⟨by decide, by decide⟩ 25 (wM_g29 cy adm σm) rfl rfl rfl (Nat.le_of_ble_eq_true rfl) dL_law_461 ⟨by show n ≤ 600000; omega, by show k ≤ 7302250; omega⟩ ?_
  refine vv_swap ?_
  refine vv_icmp_eqT (tgt := 716) C dL_law_464 (by decide) ?_
  exact nx n k fad σx σm (by omega) (by omega) hI
set_option maxHeartbeats 4000000 in
set_option maxRecDepth 20000 in
theorem lc_weighs {p : Program} {l : Launch} {e : Env} {s : State} {m : MethodId} {below : List Frame} {meth : Method} {c : Code} {D : va_G} {cy : Nat → ClassId} {Q : State → Prop} {b L : Nat} {xs : Nat → Int32} {ad fad adm : Nat → Nat} {σx σm : St_} {n k i : Nat} (C : vv_X p s m #[Value.ref b] meth c D (tysW cy) (fun q : Nat => s.heap.size ≤ q) 4 cL_law RL wsL_law) (hE : eI (fun q : Nat => s.heap.size ≤ q) s) (hX : va_X b L xs s s.heap) (hbl : b < s.heap.size) (hbA : ¬ (fun q : Nat => s.heap.size ≤ q) b) (hL : L < 2 ^ 31) (hi : i + 6 ≤ L) (hn : n < 10000) (hk : k < 100000) (hI : Inv_ σx σm)
    (nx : ∀ (n2 k2 : Nat) (fad2 : Nat → Nat) (σx2 σm2 : St_), n2 ≤ n + 1 → k2 ≤ k + 8 → Inv_ σx2 σm2 → vv_ p l e room_1 s m #[Value.ref b] below meth c D (fun q : Nat => s.heap.size ≤ q) 4 Q n2 k2 (wM cy adm σm2 ++ wX cy ad fad2 σx2) [(0, .ref b), (1, .ref (ad 28)), (2, .ref (adm 29)), (3, .int (nI i))] 716 []) :
    vv_ p l e room_1 s m #[Value.ref b] below meth c D (fun q : Nat => s.heap.size ≤ q) 4 Q n k (wM cy adm σm ++ wX cy ad fad σx) [(0, .ref b), (1, .ref (ad 28)), (2, .ref (adm 29)), (3, .int (nI i))] 469 [] := by
  obtain ⟨r, h1, h2⟩ := T_weighs hI (xs (i + 1))
  refine vv_aload_n C dL_law_469 1 rfl ?_
  refine vv_aload_n C dL_law_470 0 rfl ?_
  refine vv_iload_n C dL_law_471 3 rfl ?_
  refine vv_iconst (v := 1) C dL_law_472 (by decide) ?_
  refine vv_iadd C dL_law_473 ?_
  refine vv_sld C hX hbl hbA hL (i + 1) (by omega) (ix_1 i) dL_law_474 ?_
  refine vv_callR (wr := (wM cy adm σm)) (wc := (wX cy ad fad σx)) (wd := (wX cy ad fad σx)) rfl C eX_ok hE.1 [.int (xs (i + 1))] [] 1 (kX5_weighs l D cy ad fad (xs (i + 1)) σx r h1) gL_law_X5_weighs rfl rfl rfl (by decide +kernel) ⟨by decide, by decide⟩ 28 (wX_g28 cy ad fad σx) rfl rfl rfl (Nat.le_of_ble_eq_true rfl) dL_law_475 ⟨by show n ≤ 600000; omega, by show k ≤ 7302250; omega⟩ ?_
  refine vv_swap ?_
  refine vv_aload_n C dL_law_478 2 rfl ?_
  refine vv_aload_n C dL_law_479 0 rfl ?_
  refine vv_iload_n C dL_law_480 3 rfl ?_
  refine vv_iconst (v := 1) C dL_law_481 (by decide) ?_
  refine vv_iadd C dL_law_482 ?_
  refine vv_sld C hX hbl hbA hL (i + 1) (by omega) (ix_1 i) dL_law_483 ?_
  refine vv_callR (wr := (wX cy ad fad σx)) (wc := (wM cy adm σm)) (wd := (wM cy adm σm)) rfl C en_ok trivial [.int (xs (i + 1))] [.int r] 1 (kX6_weighs l D cy adm (xs (i + 1)) σm r h2) gL_law_X6_weighs rfl rfl rfl (by decide +kernel) ⟨by decide, by decide⟩ 25 (wM_g29 cy adm σm) rfl rfl rfl (Nat.le_of_ble_eq_true rfl) dL_law_484 ⟨by show n ≤ 600000; omega, by show k ≤ 7302250; omega⟩ ?_
  refine vv_swap ?_
  refine vv_icmp_eqT (tgt := 716) C dL_law_487 (by decide) ?_
  exact nx n k fad σx σm (by omega) (by omega) hI
set_option maxHeartbeats 4000000 in
set_option maxRecDepth 20000 in
theorem lc_vouches {p : Program} {l : Launch} {e : Env} {s : State} {m : MethodId} {below : List Frame} {meth : Method} {c : Code} {D : va_G} {cy : Nat → ClassId} {Q : State → Prop} {b L : Nat} {xs : Nat → Int32} {ad fad adm : Nat → Nat} {σx σm : St_} {n k i : Nat} (C : vv_X p s m #[Value.ref b] meth c D (tysW cy) (fun q : Nat => s.heap.size ≤ q) 4 cL_law RL wsL_law) (hE : eI (fun q : Nat => s.heap.size ≤ q) s) (hX : va_X b L xs s s.heap) (hbl : b < s.heap.size) (hbA : ¬ (fun q : Nat => s.heap.size ≤ q) b) (hL : L < 2 ^ 31) (hi : i + 6 ≤ L) (hn : n < 10000) (hk : k < 100000) (hI : Inv_ σx σm)
    (nx : ∀ (n2 k2 : Nat) (fad2 : Nat → Nat) (σx2 σm2 : St_), n2 ≤ n + 1 → k2 ≤ k + 8 → Inv_ σx2 σm2 → vv_ p l e room_1 s m #[Value.ref b] below meth c D (fun q : Nat => s.heap.size ≤ q) 4 Q n2 k2 (wM cy adm σm2 ++ wX cy ad fad2 σx2) [(0, .ref b), (1, .ref (ad 28)), (2, .ref (adm 29)), (3, .int (nI i))] 716 []) :
    vv_ p l e room_1 s m #[Value.ref b] below meth c D (fun q : Nat => s.heap.size ≤ q) 4 Q n k (wM cy adm σm ++ wX cy ad fad σx) [(0, .ref b), (1, .ref (ad 28)), (2, .ref (adm 29)), (3, .int (nI i))] 492 [] := by
  obtain ⟨r, h1, h2⟩ := T_vouches hI (xs (i + 1)) (xs (i + 2))
  refine vv_aload_n C dL_law_492 1 rfl ?_
  refine vv_aload_n C dL_law_493 0 rfl ?_
  refine vv_iload_n C dL_law_494 3 rfl ?_
  refine vv_iconst (v := 1) C dL_law_495 (by decide) ?_
  refine vv_iadd C dL_law_496 ?_
  refine vv_sld C hX hbl hbA hL (i + 1) (by omega) (ix_1 i) dL_law_497 ?_
  refine vv_aload_n C dL_law_498 0 rfl ?_
  refine vv_iload_n C dL_law_499 3 rfl ?_
  refine vv_iconst (v := 2) C dL_law_500 (by decide) ?_
  refine vv_iadd C dL_law_501 ?_
  refine vv_sld C hX hbl hbA hL (i + 2) (by omega) (ix_2 i) dL_law_502 ?_
  refine vv_callR (wr := (wM cy adm σm)) (wc := (wX cy ad fad σx)) (wd := (wX cy ad fad σx)) rfl C eX_ok hE.1 [.int (xs (i + 1)), .int (xs (i + 2))] [] 2 (kX5_vouches l D cy ad fad (xs (i + 1)) (xs (i + 2)) σx r h1) gL_law_X5_vouches rfl rfl rfl (by decide +kernel) ⟨by decide, by decide⟩ 28 (wX_g28 cy ad fad σx) rfl rfl rfl (Nat.le_of_ble_eq_true rfl) dL_law_503 ⟨by show n ≤ 600000; omega, by show k ≤ 7302250; omega⟩ ?_
  refine vv_swap ?_
  refine vv_aload_n C dL_law_506 2 rfl ?_
  refine vv_aload_n C dL_law_507 0 rfl ?_
  refine vv_iload_n C dL_law_508 3 rfl ?_
  refine vv_iconst (v := 1) C dL_law_509 (by decide) ?_
  refine vv_iadd C dL_law_510 ?_
  refine vv_sld C hX hbl hbA hL (i + 1) (by omega) (ix_1 i) dL_law_511 ?_
  refine vv_aload_n C dL_law_512 0 rfl ?_
  refine vv_iload_n C dL_law_513 3 rfl ?_
  refine vv_iconst (v := 2) C dL_law_514 (by decide) ?_
  refine vv_iadd C dL_law_515 ?_
  refine vv_sld C hX hbl hbA hL (i + 2) (by omega) (ix_2 i) dL_law_516 ?_
  refine vv_callR (wr := (wX cy ad fad σx)) (wc := (wM cy adm σm)) (wd := (wM cy adm σm)) rfl C en_ok trivial [.int (xs (i + 1)), .int (xs (i + 2))] [.int r] 2 (kX6_vouches l D cy adm (xs (i + 1)) (xs (i + 2)) σm r h2) gL_law_X6_vouches rfl rfl rfl (by decide +kernel) ⟨by decide, by decide⟩ 25 (wM_g29 cy adm σm) rfl rfl rfl (Nat.le_of_ble_eq_true rfl) dL_law_517 ⟨by show n ≤ 600000; omega, by show k ≤ 7302250; omega⟩ ?_
  refine vv_swap ?_
  refine vv_icmp_eqT (tgt := 716) C dL_law_520 (by decide) ?_
  exact nx n k fad σx σm (by omega) (by omega) hI
set_option maxHeartbeats 4000000 in
set_option maxRecDepth 20000 in
theorem lc_trust {p : Program} {l : Launch} {e : Env} {s : State} {m : MethodId} {below : List Frame} {meth : Method} {c : Code} {D : va_G} {cy : Nat → ClassId} {Q : State → Prop} {b L : Nat} {xs : Nat → Int32} {ad fad adm : Nat → Nat} {σx σm : St_} {n k i : Nat} (C : vv_X p s m #[Value.ref b] meth c D (tysW cy) (fun q : Nat => s.heap.size ≤ q) 4 cL_law RL wsL_law) (hE : eI (fun q : Nat => s.heap.size ≤ q) s) (hX : va_X b L xs s s.heap) (hbl : b < s.heap.size) (hbA : ¬ (fun q : Nat => s.heap.size ≤ q) b) (hL : L < 2 ^ 31) (hi : i + 6 ≤ L) (hn : n < 10000) (hk : k < 100000) (hI : Inv_ σx σm)
    (nx : ∀ (n2 k2 : Nat) (fad2 : Nat → Nat) (σx2 σm2 : St_), n2 ≤ n + 1 → k2 ≤ k + 8 → Inv_ σx2 σm2 → vv_ p l e room_1 s m #[Value.ref b] below meth c D (fun q : Nat => s.heap.size ≤ q) 4 Q n2 k2 (wM cy adm σm2 ++ wX cy ad fad2 σx2) [(0, .ref b), (1, .ref (ad 28)), (2, .ref (adm 29)), (3, .int (nI i))] 716 []) :
    vv_ p l e room_1 s m #[Value.ref b] below meth c D (fun q : Nat => s.heap.size ≤ q) 4 Q n k (wM cy adm σm ++ wX cy ad fad σx) [(0, .ref b), (1, .ref (ad 28)), (2, .ref (adm 29)), (3, .int (nI i))] 525 [] := by
  obtain ⟨r, σm2, h1, h2, h3⟩ := T_trust hI (xs (i + 1)) (xs (i + 2))
  refine vv_aload_n C dL_law_525 1 rfl ?_
  refine vv_aload_n C dL_law_526 0 rfl ?_
  refine vv_iload_n C dL_law_527 3 rfl ?_
  refine vv_iconst (v := 1) C dL_law_528 (by decide) ?_
  refine vv_iadd C dL_law_529 ?_
  refine vv_sld C hX hbl hbA hL (i + 1) (by omega) (ix_1 i) dL_law_530 ?_
  refine vv_aload_n C dL_law_531 0 rfl ?_
  refine vv_iload_n C dL_law_532 3 rfl ?_
  refine vv_iconst (v := 2) C dL_law_533 (by decide) ?_
  refine vv_iadd C dL_law_534 ?_
  refine vv_sld C hX hbl hbA hL (i + 2) (by omega) (ix_2 i) dL_law_535 ?_
  refine vv_callR (wr := (wM cy adm σm)) (wc := (wX cy ad fad σx)) (wd := (wX cy ad fad σx)) rfl C eX_ok hE.1 [.int (xs (i + 1)), .int (xs (i + 2))] [] 2 (kX5_trust l D cy ad fad (xs (i + 1)) (xs (i + 2)) σx r h1) gL_law_X5_trust rfl rfl rfl (by decide +kernel) ⟨by decide, by decide⟩ 28 (wX_g28 cy ad fad σx) rfl rfl rfl (Nat.le_of_ble_eq_true rfl) dL_law_536 ⟨by show n ≤ 600000; omega, by show k ≤ 7302250; omega⟩ ?_
  refine vv_swap ?_
  refine vv_aload_n C dL_law_539 2 rfl ?_
  refine vv_aload_n C dL_law_540 0 rfl ?_
  refine vv_iload_n C dL_law_541 3 rfl ?_
  refine vv_iconst (v := 1) C dL_law_542 (by decide) ?_
  refine vv_iadd C dL_law_543 ?_
  refine vv_sld C hX hbl hbA hL (i + 1) (by omega) (ix_1 i) dL_law_544 ?_
  refine vv_aload_n C dL_law_545 0 rfl ?_
  refine vv_iload_n C dL_law_546 3 rfl ?_
  refine vv_iconst (v := 2) C dL_law_547 (by decide) ?_
  refine vv_iadd C dL_law_548 ?_
  refine vv_sld C hX hbl hbA hL (i + 2) (by omega) (ix_2 i) dL_law_549 ?_
  refine vv_callR (wr := (wX cy ad fad σx)) (wc := (wM cy adm σm)) (wd := (wM cy adm σm2)) rfl C en_ok trivial [.int (xs (i + 1)), .int (xs (i + 2))] [.int r] 2 (kX6_trust l D cy adm (xs (i + 1)) (xs (i + 2)) σm (r, σm2) h2) gL_law_X6_trust rfl rfl rfl (by decide +kernel) ⟨by decide, by decide⟩ 25 (wM_g29 cy adm σm) rfl rfl rfl (Nat.le_of_ble_eq_true rfl) dL_law_550 ⟨by show n ≤ 600000; omega, by show k ≤ 7302250; omega⟩ ?_
  refine vv_swap ?_
  refine vv_icmp_eqT (tgt := 716) C dL_law_553 (by decide) ?_
  exact nx n k fad σx σm2 (by omega) (by omega) h3
set_option maxHeartbeats 4000000 in
set_option maxRecDepth 20000 in
theorem lc_sell {p : Program} {l : Launch} {e : Env} {s : State} {m : MethodId} {below : List Frame} {meth : Method} {c : Code} {D : va_G} {cy : Nat → ClassId} {Q : State → Prop} {b L : Nat} {xs : Nat → Int32} {ad fad adm : Nat → Nat} {σx σm : St_} {n k i : Nat} (C : vv_X p s m #[Value.ref b] meth c D (tysW cy) (fun q : Nat => s.heap.size ≤ q) 4 cL_law RL wsL_law) (hE : eI (fun q : Nat => s.heap.size ≤ q) s) (hX : va_X b L xs s s.heap) (hbl : b < s.heap.size) (hbA : ¬ (fun q : Nat => s.heap.size ≤ q) b) (hL : L < 2 ^ 31) (hi : i + 6 ≤ L) (hn : n < 10000) (hk : k < 100000) (hI : Inv_ σx σm)
    (nx : ∀ (n2 k2 : Nat) (fad2 : Nat → Nat) (σx2 σm2 : St_), n2 ≤ n + 1 → k2 ≤ k + 8 → Inv_ σx2 σm2 → vv_ p l e room_1 s m #[Value.ref b] below meth c D (fun q : Nat => s.heap.size ≤ q) 4 Q n2 k2 (wM cy adm σm2 ++ wX cy ad fad2 σx2) [(0, .ref b), (1, .ref (ad 28)), (2, .ref (adm 29)), (3, .int (nI i))] 716 []) :
    vv_ p l e room_1 s m #[Value.ref b] below meth c D (fun q : Nat => s.heap.size ≤ q) 4 Q n k (wM cy adm σm ++ wX cy ad fad σx) [(0, .ref b), (1, .ref (ad 28)), (2, .ref (adm 29)), (3, .int (nI i))] 558 [] := by
  obtain ⟨r, σx2, σm2, h1, h2, h3⟩ := T_sell hI (xs (i + 1)) (xs (i + 2))
  refine vv_aload_n C dL_law_558 1 rfl ?_
  refine vv_aload_n C dL_law_559 0 rfl ?_
  refine vv_iload_n C dL_law_560 3 rfl ?_
  refine vv_iconst (v := 1) C dL_law_561 (by decide) ?_
  refine vv_iadd C dL_law_562 ?_
  refine vv_sld C hX hbl hbA hL (i + 1) (by omega) (ix_1 i) dL_law_563 ?_
  refine vv_aload_n C dL_law_564 0 rfl ?_
  refine vv_iload_n C dL_law_565 3 rfl ?_
  refine vv_iconst (v := 2) C dL_law_566 (by decide) ?_
  refine vv_iadd C dL_law_567 ?_
  refine vv_sld C hX hbl hbA hL (i + 2) (by omega) (ix_2 i) dL_law_568 ?_
  refine vv_callR (wr := (wM cy adm σm)) (wc := (wX cy ad fad σx)) (wd := (wX cy ad fad σx2)) rfl C eX_ok hE.1 [.int (xs (i + 1)), .int (xs (i + 2))] [] 2 (kX5_sell l D cy ad fad (xs (i + 1)) (xs (i + 2)) σx (r, σx2) h1) gL_law_X5_sell rfl rfl rfl (by decide +kernel) ⟨by decide, by decide⟩ 28 (wX_g28 cy ad fad σx) rfl rfl rfl (Nat.le_of_ble_eq_true rfl) dL_law_569 ⟨by show n ≤ 600000; omega, by show k ≤ 7302250; omega⟩ ?_
  refine vv_swap ?_
  refine vv_aload_n C dL_law_572 2 rfl ?_
  refine vv_aload_n C dL_law_573 0 rfl ?_
  refine vv_iload_n C dL_law_574 3 rfl ?_
  refine vv_iconst (v := 1) C dL_law_575 (by decide) ?_
  refine vv_iadd C dL_law_576 ?_
  refine vv_sld C hX hbl hbA hL (i + 1) (by omega) (ix_1 i) dL_law_577 ?_
  refine vv_aload_n C dL_law_578 0 rfl ?_
  refine vv_iload_n C dL_law_579 3 rfl ?_
  refine vv_iconst (v := 2) C dL_law_580 (by decide) ?_
  refine vv_iadd C dL_law_581 ?_
  refine vv_sld C hX hbl hbA hL (i + 2) (by omega) (ix_2 i) dL_law_582 ?_
  refine vv_callR (wr := (wX cy ad fad σx2)) (wc := (wM cy adm σm)) (wd := (wM cy adm σm2)) rfl C en_ok trivial [.int (xs (i + 1)), .int (xs (i + 2))] [.int r] 2 (kX6_sell l D cy adm (xs (i + 1)) (xs (i + 2)) σm (r, σm2) h2) gL_law_X6_sell rfl rfl rfl (by decide +kernel) ⟨by decide, by decide⟩ 25 (wM_g29 cy adm σm) rfl rfl rfl (Nat.le_of_ble_eq_true rfl) dL_law_583 ⟨by show n ≤ 600000; omega, by show k ≤ 7302250; omega⟩ ?_
  refine vv_swap ?_
  refine vv_icmp_eqT (tgt := 716) C dL_law_586 (by decide) ?_
  exact nx n k fad σx2 σm2 (by omega) (by omega) h3
set_option maxHeartbeats 4000000 in
set_option maxRecDepth 20000 in
theorem lc_year {p : Program} {l : Launch} {e : Env} {s : State} {m : MethodId} {below : List Frame} {meth : Method} {c : Code} {D : va_G} {cy : Nat → ClassId} {Q : State → Prop} {b L : Nat} {xs : Nat → Int32} {ad fad adm : Nat → Nat} {σx σm : St_} {n k i : Nat} (C : vv_X p s m #[Value.ref b] meth c D (tysW cy) (fun q : Nat => s.heap.size ≤ q) 4 cL_law RL wsL_law) (hE : eI (fun q : Nat => s.heap.size ≤ q) s) (hX : va_X b L xs s s.heap) (hbl : b < s.heap.size) (hbA : ¬ (fun q : Nat => s.heap.size ≤ q) b) (hL : L < 2 ^ 31) (hi : i + 6 ≤ L) (hn : n < 10000) (hk : k < 100000) (hI : Inv_ σx σm)
    (nx : ∀ (n2 k2 : Nat) (fad2 : Nat → Nat) (σx2 σm2 : St_), n2 ≤ n + 1 → k2 ≤ k + 8 → Inv_ σx2 σm2 → vv_ p l e room_1 s m #[Value.ref b] below meth c D (fun q : Nat => s.heap.size ≤ q) 4 Q n2 k2 (wM cy adm σm2 ++ wX cy ad fad2 σx2) [(0, .ref b), (1, .ref (ad 28)), (2, .ref (adm 29)), (3, .int (nI i))] 716 []) :
    vv_ p l e room_1 s m #[Value.ref b] below meth c D (fun q : Nat => s.heap.size ≤ q) 4 Q n k (wM cy adm σm ++ wX cy ad fad σx) [(0, .ref b), (1, .ref (ad 28)), (2, .ref (adm 29)), (3, .int (nI i))] 591 [] := by
  obtain ⟨r, σx2, σm2, h1, h2, h3⟩ := T_year hI 
  refine vv_aload_n C dL_law_591 1 rfl ?_
  refine vv_callR (wr := (wM cy adm σm)) (wc := (wX cy ad fad σx)) (wd := (wX cy ad fad σx2)) rfl C eX_ok hE.1 [] [] 0 (kX5_year l D cy ad fad  σx (r, σx2) h1) gL_law_X5_year rfl rfl rfl (by decide +kernel) ⟨by decide, by decide⟩ 28 (wX_g28 cy ad fad σx) rfl rfl rfl (Nat.le_of_ble_eq_true rfl) dL_law_592 ⟨by show n ≤ 600000; omega, by show k ≤ 7302250; omega⟩ ?_
  refine vv_swap ?_
  refine vv_aload_n C dL_law_595 2 rfl ?_
  refine vv_callR (wr := (wX cy ad fad σx2)) (wc := (wM cy adm σm)) (wd := (wM cy adm σm2)) rfl C en_ok trivial [] [.int r] 0 (kX6_year l D cy adm  σm (r, σm2) h2) gL_law_X6_year rfl rfl rfl (by decide +kernel) ⟨by decide, by decide⟩ 25 (wM_g29 cy adm σm) rfl rfl rfl (Nat.le_of_ble_eq_true rfl) dL_law_596 ⟨by show n ≤ 600000; omega, by show k ≤ 7302250; omega⟩ ?_
  refine vv_swap ?_
  refine vv_icmp_eqT (tgt := 716) C dL_law_599 (by decide) ?_
  exact nx n k fad σx2 σm2 (by omega) (by omega) h3
set_option maxHeartbeats 4000000 in
set_option maxRecDepth 20000 in
theorem lc_sealed {p : Program} {l : Launch} {e : Env} {s : State} {m : MethodId} {below : List Frame} {meth : Method} {c : Code} {D : va_G} {cy : Nat → ClassId} {Q : State → Prop} {b L : Nat} {xs : Nat → Int32} {ad fad adm : Nat → Nat} {σx σm : St_} {n k i : Nat} (C : vv_X p s m #[Value.ref b] meth c D (tysW cy) (fun q : Nat => s.heap.size ≤ q) 4 cL_law RL wsL_law) (hE : eI (fun q : Nat => s.heap.size ≤ q) s) (hX : va_X b L xs s s.heap) (hbl : b < s.heap.size) (hbA : ¬ (fun q : Nat => s.heap.size ≤ q) b) (hL : L < 2 ^ 31) (hi : i + 6 ≤ L) (hn : n < 10000) (hk : k < 100000) (hI : Inv_ σx σm)
    (nx : ∀ (n2 k2 : Nat) (fad2 : Nat → Nat) (σx2 σm2 : St_), n2 ≤ n + 1 → k2 ≤ k + 8 → Inv_ σx2 σm2 → vv_ p l e room_1 s m #[Value.ref b] below meth c D (fun q : Nat => s.heap.size ≤ q) 4 Q n2 k2 (wM cy adm σm2 ++ wX cy ad fad2 σx2) [(0, .ref b), (1, .ref (ad 28)), (2, .ref (adm 29)), (3, .int (nI i))] 716 []) :
    vv_ p l e room_1 s m #[Value.ref b] below meth c D (fun q : Nat => s.heap.size ≤ q) 4 Q n k (wM cy adm σm ++ wX cy ad fad σx) [(0, .ref b), (1, .ref (ad 28)), (2, .ref (adm 29)), (3, .int (nI i))] 604 [] := by
  obtain ⟨r, h1, h2⟩ := T_sealed hI (xs (i + 1))
  refine vv_aload_n C dL_law_604 1 rfl ?_
  refine vv_aload_n C dL_law_605 0 rfl ?_
  refine vv_iload_n C dL_law_606 3 rfl ?_
  refine vv_iconst (v := 1) C dL_law_607 (by decide) ?_
  refine vv_iadd C dL_law_608 ?_
  refine vv_sld C hX hbl hbA hL (i + 1) (by omega) (ix_1 i) dL_law_609 ?_
  refine vv_callR (wr := (wM cy adm σm)) (wc := (wX cy ad fad σx)) (wd := (wX cy ad fad σx)) rfl C eX_ok hE.1 [.int (xs (i + 1))] [] 1 (kX5_sealed l D cy ad fad (xs (i + 1)) σx r h1) gL_law_X5_sealed rfl rfl rfl (by decide +kernel) ⟨by decide, by decide⟩ 28 (wX_g28 cy ad fad σx) rfl rfl rfl (Nat.le_of_ble_eq_true rfl) dL_law_610 ⟨by show n ≤ 600000; omega, by show k ≤ 7302250; omega⟩ ?_
  refine vv_swap ?_
  refine vv_aload_n C dL_law_613 2 rfl ?_
  refine vv_aload_n C dL_law_614 0 rfl ?_
  refine vv_iload_n C dL_law_615 3 rfl ?_
  refine vv_iconst (v := 1) C dL_law_616 (by decide) ?_
  refine vv_iadd C dL_law_617 ?_
  refine vv_sld C hX hbl hbA hL (i + 1) (by omega) (ix_1 i) dL_law_618 ?_
  refine vv_callR (wr := (wX cy ad fad σx)) (wc := (wM cy adm σm)) (wd := (wM cy adm σm)) rfl C en_ok trivial [.int (xs (i + 1))] [.int r] 1 (kX6_sealed l D cy adm (xs (i + 1)) σm r h2) gL_law_X6_sealed rfl rfl rfl (by decide +kernel) ⟨by decide, by decide⟩ 25 (wM_g29 cy adm σm) rfl rfl rfl (Nat.le_of_ble_eq_true rfl) dL_law_619 ⟨by show n ≤ 600000; omega, by show k ≤ 7302250; omega⟩ ?_
  refine vv_swap ?_
  refine vv_icmp_eqT (tgt := 716) C dL_law_622 (by decide) ?_
  exact nx n k fad σx σm (by omega) (by omega) hI
set_option maxHeartbeats 4000000 in
set_option maxRecDepth 20000 in
theorem lc_barred {p : Program} {l : Launch} {e : Env} {s : State} {m : MethodId} {below : List Frame} {meth : Method} {c : Code} {D : va_G} {cy : Nat → ClassId} {Q : State → Prop} {b L : Nat} {xs : Nat → Int32} {ad fad adm : Nat → Nat} {σx σm : St_} {n k i : Nat} (C : vv_X p s m #[Value.ref b] meth c D (tysW cy) (fun q : Nat => s.heap.size ≤ q) 4 cL_law RL wsL_law) (hE : eI (fun q : Nat => s.heap.size ≤ q) s) (hX : va_X b L xs s s.heap) (hbl : b < s.heap.size) (hbA : ¬ (fun q : Nat => s.heap.size ≤ q) b) (hL : L < 2 ^ 31) (hi : i + 6 ≤ L) (hn : n < 10000) (hk : k < 100000) (hI : Inv_ σx σm)
    (nx : ∀ (n2 k2 : Nat) (fad2 : Nat → Nat) (σx2 σm2 : St_), n2 ≤ n + 1 → k2 ≤ k + 8 → Inv_ σx2 σm2 → vv_ p l e room_1 s m #[Value.ref b] below meth c D (fun q : Nat => s.heap.size ≤ q) 4 Q n2 k2 (wM cy adm σm2 ++ wX cy ad fad2 σx2) [(0, .ref b), (1, .ref (ad 28)), (2, .ref (adm 29)), (3, .int (nI i))] 716 []) :
    vv_ p l e room_1 s m #[Value.ref b] below meth c D (fun q : Nat => s.heap.size ≤ q) 4 Q n k (wM cy adm σm ++ wX cy ad fad σx) [(0, .ref b), (1, .ref (ad 28)), (2, .ref (adm 29)), (3, .int (nI i))] 627 [] := by
  obtain ⟨r, h1, h2⟩ := T_barred hI (xs (i + 1)) (xs (i + 2))
  refine vv_aload_n C dL_law_627 1 rfl ?_
  refine vv_aload_n C dL_law_628 0 rfl ?_
  refine vv_iload_n C dL_law_629 3 rfl ?_
  refine vv_iconst (v := 1) C dL_law_630 (by decide) ?_
  refine vv_iadd C dL_law_631 ?_
  refine vv_sld C hX hbl hbA hL (i + 1) (by omega) (ix_1 i) dL_law_632 ?_
  refine vv_aload_n C dL_law_633 0 rfl ?_
  refine vv_iload_n C dL_law_634 3 rfl ?_
  refine vv_iconst (v := 2) C dL_law_635 (by decide) ?_
  refine vv_iadd C dL_law_636 ?_
  refine vv_sld C hX hbl hbA hL (i + 2) (by omega) (ix_2 i) dL_law_637 ?_
  refine vv_callR (wr := (wM cy adm σm)) (wc := (wX cy ad fad σx)) (wd := (wX cy ad fad σx)) rfl C eX_ok hE.1 [.int (xs (i + 1)), .int (xs (i + 2))] [] 2 (kX5_barred l D cy ad fad (xs (i + 1)) (xs (i + 2)) σx r h1) gL_law_X5_barred rfl rfl rfl (by decide +kernel) ⟨by decide, by decide⟩ 28 (wX_g28 cy ad fad σx) rfl rfl rfl (Nat.le_of_ble_eq_true rfl) dL_law_638 ⟨by show n ≤ 600000; omega, by show k ≤ 7302250; omega⟩ ?_
  refine vv_swap ?_
  refine vv_aload_n C dL_law_641 2 rfl ?_
  refine vv_aload_n C dL_law_642 0 rfl ?_
  refine vv_iload_n C dL_law_643 3 rfl ?_
  refine vv_iconst (v := 1) C dL_law_644 (by decide) ?_
  refine vv_iadd C dL_law_645 ?_
  refine vv_sld C hX hbl hbA hL (i + 1) (by omega) (ix_1 i) dL_law_646 ?_
  refine vv_aload_n C dL_law_647 0 rfl ?_
  refine vv_iload_n C dL_law_648 3 rfl ?_
  refine vv_iconst (v := 2) C dL_law_649 (by decide) ?_
  refine vv_iadd C dL_law_650 ?_
  refine vv_sld C hX hbl hbA hL (i + 2) (by omega) (ix_2 i) dL_law_651 ?_
  refine vv_callR (wr := (wX cy ad fad σx)) (wc := (wM cy adm σm)) (wd := (wM cy adm σm)) rfl C en_ok trivial [.int (xs (i + 1)), .int (xs (i + 2))] [.int r] 2 (kX6_barred l D cy adm (xs (i + 1)) (xs (i + 2)) σm r h2) gL_law_X6_barred rfl rfl rfl (by decide +kernel) ⟨by decide, by decide⟩ 25 (wM_g29 cy adm σm) rfl rfl rfl (Nat.le_of_ble_eq_true rfl) dL_law_652 ⟨by show n ≤ 600000; omega, by show k ≤ 7302250; omega⟩ ?_
  refine vv_swap ?_
  refine vv_icmp_eqT (tgt := 716) C dL_law_655 (by decide) ?_
  exact nx n k fad σx σm (by omega) (by omega) hI
set_option maxHeartbeats 4000000 in
set_option maxRecDepth 20000 in
theorem lc_look {p : Program} {l : Launch} {e : Env} {s : State} {m : MethodId} {below : List Frame} {meth : Method} {c : Code} {D : va_G} {cy : Nat → ClassId} {Q : State → Prop} {b L : Nat} {xs : Nat → Int32} {ad fad adm : Nat → Nat} {σx σm : St_} {n k i : Nat} (C : vv_X p s m #[Value.ref b] meth c D (tysW cy) (fun q : Nat => s.heap.size ≤ q) 4 cL_law RL wsL_law) (hE : eI (fun q : Nat => s.heap.size ≤ q) s) (hX : va_X b L xs s s.heap) (hbl : b < s.heap.size) (hbA : ¬ (fun q : Nat => s.heap.size ≤ q) b) (hL : L < 2 ^ 31) (hi : i + 6 ≤ L) (hn : n < 10000) (hk : k < 100000) (hI : Inv_ σx σm)
    (nx : ∀ (n2 k2 : Nat) (fad2 : Nat → Nat) (σx2 σm2 : St_), n2 ≤ n + 1 → k2 ≤ k + 8 → Inv_ σx2 σm2 → vv_ p l e room_1 s m #[Value.ref b] below meth c D (fun q : Nat => s.heap.size ≤ q) 4 Q n2 k2 (wM cy adm σm2 ++ wX cy ad fad2 σx2) [(0, .ref b), (1, .ref (ad 28)), (2, .ref (adm 29)), (3, .int (nI i))] 716 []) :
    vv_ p l e room_1 s m #[Value.ref b] below meth c D (fun q : Nat => s.heap.size ≤ q) 4 Q n k (wM cy adm σm ++ wX cy ad fad σx) [(0, .ref b), (1, .ref (ad 28)), (2, .ref (adm 29)), (3, .int (nI i))] 660 [] := by
  obtain ⟨r, h1, h2⟩ := T_look hI (xs (i + 1)) (xs (i + 2))
  refine vv_aload_n C dL_law_660 1 rfl ?_
  refine vv_aload_n C dL_law_661 0 rfl ?_
  refine vv_iload_n C dL_law_662 3 rfl ?_
  refine vv_iconst (v := 1) C dL_law_663 (by decide) ?_
  refine vv_iadd C dL_law_664 ?_
  refine vv_sld C hX hbl hbA hL (i + 1) (by omega) (ix_1 i) dL_law_665 ?_
  refine vv_aload_n C dL_law_666 0 rfl ?_
  refine vv_iload_n C dL_law_667 3 rfl ?_
  refine vv_iconst (v := 2) C dL_law_668 (by decide) ?_
  refine vv_iadd C dL_law_669 ?_
  refine vv_sld C hX hbl hbA hL (i + 2) (by omega) (ix_2 i) dL_law_670 ?_
  refine vv_callR (wr := (wM cy adm σm)) (wc := (wX cy ad fad σx)) (wd := (wX cy ad fad σx)) rfl C eX_ok hE.1 [.int (xs (i + 1)), .int (xs (i + 2))] [] 2 (kX5_look l D cy ad fad (xs (i + 1)) (xs (i + 2)) σx r h1) gL_law_X5_look rfl rfl rfl (by decide +kernel) ⟨by decide, by decide⟩ 28 (wX_g28 cy ad fad σx) rfl rfl rfl (Nat.le_of_ble_eq_true rfl) dL_law_671 ⟨by show n ≤ 600000; omega, by show k ≤ 7302250; omega⟩ ?_
  refine vv_swap ?_
  refine vv_aload_n C dL_law_674 2 rfl ?_
  refine vv_aload_n C dL_law_675 0 rfl ?_
  refine vv_iload_n C dL_law_676 3 rfl ?_
  refine vv_iconst (v := 1) C dL_law_677 (by decide) ?_
  refine vv_iadd C dL_law_678 ?_
  refine vv_sld C hX hbl hbA hL (i + 1) (by omega) (ix_1 i) dL_law_679 ?_
  refine vv_aload_n C dL_law_680 0 rfl ?_
  refine vv_iload_n C dL_law_681 3 rfl ?_
  refine vv_iconst (v := 2) C dL_law_682 (by decide) ?_
  refine vv_iadd C dL_law_683 ?_
  refine vv_sld C hX hbl hbA hL (i + 2) (by omega) (ix_2 i) dL_law_684 ?_
  refine vv_callR (wr := (wX cy ad fad σx)) (wc := (wM cy adm σm)) (wd := (wM cy adm σm)) rfl C en_ok trivial [.int (xs (i + 1)), .int (xs (i + 2))] [.int r] 2 (kX6_look l D cy adm (xs (i + 1)) (xs (i + 2)) σm r h2) gL_law_X6_look rfl rfl rfl (by decide +kernel) ⟨by decide, by decide⟩ 25 (wM_g29 cy adm σm) rfl rfl rfl (Nat.le_of_ble_eq_true rfl) dL_law_685 ⟨by show n ≤ 600000; omega, by show k ≤ 7302250; omega⟩ ?_
  refine vv_swap ?_
  refine vv_icmp_eqT (tgt := 716) C dL_law_688 (by decide) ?_
  exact nx n k fad σx σm (by omega) (by omega) hI
set_option maxHeartbeats 4000000 in
set_option maxRecDepth 20000 in
theorem lc_count {p : Program} {l : Launch} {e : Env} {s : State} {m : MethodId} {below : List Frame} {meth : Method} {c : Code} {D : va_G} {cy : Nat → ClassId} {Q : State → Prop} {b L : Nat} {xs : Nat → Int32} {ad fad adm : Nat → Nat} {σx σm : St_} {n k i : Nat} (C : vv_X p s m #[Value.ref b] meth c D (tysW cy) (fun q : Nat => s.heap.size ≤ q) 4 cL_law RL wsL_law) (hE : eI (fun q : Nat => s.heap.size ≤ q) s) (hX : va_X b L xs s s.heap) (hbl : b < s.heap.size) (hbA : ¬ (fun q : Nat => s.heap.size ≤ q) b) (hL : L < 2 ^ 31) (hi : i + 6 ≤ L) (hn : n < 10000) (hk : k < 100000) (hI : Inv_ σx σm)
    (nx : ∀ (n2 k2 : Nat) (fad2 : Nat → Nat) (σx2 σm2 : St_), n2 ≤ n + 1 → k2 ≤ k + 8 → Inv_ σx2 σm2 → vv_ p l e room_1 s m #[Value.ref b] below meth c D (fun q : Nat => s.heap.size ≤ q) 4 Q n2 k2 (wM cy adm σm2 ++ wX cy ad fad2 σx2) [(0, .ref b), (1, .ref (ad 28)), (2, .ref (adm 29)), (3, .int (nI i))] 716 []) :
    vv_ p l e room_1 s m #[Value.ref b] below meth c D (fun q : Nat => s.heap.size ≤ q) 4 Q n k (wM cy adm σm ++ wX cy ad fad σx) [(0, .ref b), (1, .ref (ad 28)), (2, .ref (adm 29)), (3, .int (nI i))] 693 [] := by
  obtain ⟨r, h1, h2⟩ := T_count hI (xs (i + 1))
  refine vv_aload_n C dL_law_693 1 rfl ?_
  refine vv_aload_n C dL_law_694 0 rfl ?_
  refine vv_iload_n C dL_law_695 3 rfl ?_
  refine vv_iconst (v := 1) C dL_law_696 (by decide) ?_
  refine vv_iadd C dL_law_697 ?_
  refine vv_sld C hX hbl hbA hL (i + 1) (by omega) (ix_1 i) dL_law_698 ?_
  refine vv_callR (wr := (wM cy adm σm)) (wc := (wX cy ad fad σx)) (wd := (wX cy ad fad σx)) rfl C eX_ok hE.1 [.int (xs (i + 1))] [] 1 (kX5_count l D cy ad fad (xs (i + 1)) σx r h1) gL_law_X5_count rfl rfl rfl (by decide +kernel) ⟨by decide, by decide⟩ 28 (wX_g28 cy ad fad σx) rfl rfl rfl (Nat.le_of_ble_eq_true rfl) dL_law_699 ⟨by show n ≤ 600000; omega, by show k ≤ 7302250; omega⟩ ?_
  refine vv_swap ?_
  refine vv_aload_n C dL_law_702 2 rfl ?_
  refine vv_aload_n C dL_law_703 0 rfl ?_
  refine vv_iload_n C dL_law_704 3 rfl ?_
  refine vv_iconst (v := 1) C dL_law_705 (by decide) ?_
  refine vv_iadd C dL_law_706 ?_
  refine vv_sld C hX hbl hbA hL (i + 1) (by omega) (ix_1 i) dL_law_707 ?_
  refine vv_callR (wr := (wX cy ad fad σx)) (wc := (wM cy adm σm)) (wd := (wM cy adm σm)) rfl C en_ok trivial [.int (xs (i + 1))] [.int r] 1 (kX6_count l D cy adm (xs (i + 1)) σm r h2) gL_law_X6_count rfl rfl rfl (by decide +kernel) ⟨by decide, by decide⟩ 25 (wM_g29 cy adm σm) rfl rfl rfl (Nat.le_of_ble_eq_true rfl) dL_law_708 ⟨by show n ≤ 600000; omega, by show k ≤ 7302250; omega⟩ ?_
  refine vv_swap ?_
  refine vv_icmp_eqT (tgt := 716) C dL_law_711 (by decide) ?_
  exact nx n k fad σx σm (by omega) (by omega) hI
