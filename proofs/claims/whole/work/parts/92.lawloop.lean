set_option maxHeartbeats 4000000 in
set_option maxRecDepth 20000 in
theorem law_loop {p : Program} {l : Launch} {e : Env} {s : State} {m : MethodId} {below : List Frame} {meth : Method} {c : Code} {D : va_G} {cy : Nat → ClassId} {Q : State → Prop} {b L : Nat} {xs : Nat → Int32} {ad adm : Nat → Nat} (C : vv_X p s m #[Value.ref b] meth c D (tysW cy) (fun q : Nat => s.heap.size ≤ q) 4 cL_law RL wsL_law) (hE : eI (fun q : Nat => s.heap.size ≤ q) s) (hX : va_X b L xs s s.heap) (hbl : b < s.heap.size) (hbA : ¬ (fun q : Nat => s.heap.size ≤ q) b) (hL : L ≤ 3072)
    (hend : ∀ (n k : Nat) (w : va_W) (lv : List (Nat × Value)), n ≤ 600000 → k ≤ 7302250 → vv_ p l e room_1 s m #[Value.ref b] below meth c D (fun q : Nat => s.heap.size ≤ q) 4 Q n k w lv 722 []) :
    ∀ (g i n k : Nat) (fad : Nat → Nat) (σx σm : St_), L + 1 ≤ i + g → i ≤ L + 6 → n ≤ 100 + i → k ≤ 2000 + 8 * i → Inv_ σx σm → vv_ p l e room_1 s m #[Value.ref b] below meth c D (fun q : Nat => s.heap.size ≤ q) 4 Q n k (wM cy adm σm ++ wX cy ad fad σx) [(0, .ref b), (1, .ref (ad 28)), (2, .ref (adm 29)), (3, .int (nI i))] 18 [] := by
  intro g
  induction g with
  | zero =>
    intro i n k fad σx σm h1 h2 hn hk hI
    have hgt : nI L - 6 < nI i := Classical.byContradiction fun hz => by
      have := ix_gt (by omega) (by omega) hz
      omega
    refine vv_iload_n C dL_law_18 3 rfl ?_
    refine vv_aload_n C dL_law_19 0 rfl ?_
    refine vv_slen C hX hbl hbA dL_law_20 ?_
    refine vv_bipush (v := 6) C dL_law_21 (by decide) ?_
    refine vv_isub C dL_law_23 ?_
    refine vv_icmp_gt (FA := some ()) (FB := some ()) (res := ()) (tgt := 722) C dL_law_24 (by decide) (by split <;> rfl) (fun hz _ => ?_) (fun hz _ => absurd hgt hz)
    exact hend n k _ _ (by omega) (by omega)
  | succ g ih =>
    intro i n k fad σx σm h1 h2 hn hk hI
    refine vv_iload_n C dL_law_18 3 rfl ?_
    refine vv_aload_n C dL_law_19 0 rfl ?_
    refine vv_slen C hX hbl hbA dL_law_20 ?_
    refine vv_bipush (v := 6) C dL_law_21 (by decide) ?_
    refine vv_isub C dL_law_23 ?_
    refine vv_icmp_gt (FA := some ()) (FB := some ()) (res := ()) (tgt := 722) C dL_law_24 (by decide) (by split <;> rfl) (fun hz _ => ?_) (fun hz _ => ?_)
    · exact hend n k _ _ (by omega) (by omega)
    · have hi6 : i + 6 ≤ L := ix_gt (by omega) (by omega) hz
      have nx : ∀ (n2 k2 : Nat) (fad2 : Nat → Nat) (σx2 σm2 : St_), n2 ≤ n + 1 → k2 ≤ k + 8 → Inv_ σx2 σm2 → vv_ p l e room_1 s m #[Value.ref b] below meth c D (fun q : Nat => s.heap.size ≤ q) 4 Q n2 k2 (wM cy adm σm2 ++ wX cy ad fad2 σx2) [(0, .ref b), (1, .ref (ad 28)), (2, .ref (adm 29)), (3, .int (nI i))] 716 [] := by
        intro n2 k2 fad2 σx2 σm2 hn2 hk2 hI2
        refine vv_iinc (q := 3) (v := nI (i + 6)) (lv' := [(3, .int (nI (i + 6))), (0, .ref b), (1, .ref (ad 28)), (2, .ref (adm 29))]) C dL_law_716 rfl (ix_6 i) (by decide) rfl ?_
        refine vv_goto (tgt := 18) C dL_law_719 (by decide) ?_
        refine vv_lv [1, 2, 3, 0] rfl ?_
        exact ih (i + 6) n2 k2 fad2 σx2 σm2 (by omega) (by omega) (by omega) (by omega) hI2
      have hL31 : L < 2 ^ 31 := by omega
      refine vv_aload_n C dL_law_27 0 rfl ?_
      refine vv_iload_n C dL_law_28 3 rfl ?_
      refine vv_sld C hX hbl hbA hL31 i (by omega) rfl dL_law_29 ?_
      refine vv_bipush (v := 31) C dL_law_30 (by decide) ?_
      refine vv_iand C dL_law_32 ?_
      by_cases s0 : (xs i &&& 31) = 0
      · refine vv_tableIn (tgt := 120) C 0 s0 dL_law_33 (by decide +kernel) (by decide +kernel) rfl (by decide) ?_
        exact lc_feed C hE hX hbl hbA hL31 hi6 (by omega) (by omega) hI nx
      by_cases s1 : (xs i &&& 31) = 1
      · refine vv_tableIn (tgt := 183) C 1 s1 dL_law_33 (by decide +kernel) (by decide +kernel) rfl (by decide) ?_
        exact lc_rules C hE hX hbl hbA hL31 hi6 (by omega) (by omega) hI nx
      by_cases s2 : (xs i &&& 31) = 2
      · refine vv_tableIn (tgt := 206) C 2 s2 dL_law_33 (by decide +kernel) (by decide +kernel) rfl (by decide) ?_
        exact lc_farm C hE hX hbl hbA hL31 hi6 (by omega) (by omega) hI nx
      by_cases s3 : (xs i &&& 31) = 3
      · refine vv_tableIn (tgt := 239) C 3 s3 dL_law_33 (by decide +kernel) (by decide +kernel) rfl (by decide) ?_
        exact lc_buys C hE hX hbl hbA hL31 hi6 (by omega) (by omega) hI nx
      by_cases s4 : (xs i &&& 31) = 4
      · refine vv_tableIn (tgt := 298) C 4 s4 dL_law_33 (by decide +kernel) (by decide +kernel) rfl (by decide) ?_
        exact lc_weight C hE hX hbl hbA hL31 hi6 (by omega) (by omega) hI nx
      by_cases s5 : (xs i &&& 31) = 5
      · refine vv_tableIn (tgt := 331) C 5 s5 dL_law_33 (by decide +kernel) (by decide +kernel) rfl (by decide) ?_
        exact lc_lay C hE hX hbl hbA hL31 hi6 (by omega) (by omega) hI nx
      by_cases s6 : (xs i &&& 31) = 6
      · refine vv_tableIn (tgt := 344) C 6 s6 dL_law_33 (by decide +kernel) (by decide +kernel) rfl (by decide) ?_
        exact lc_visitor C hE hX hbl hbA hL31 hi6 (by omega) (by omega) hI nx
      by_cases s7 : (xs i &&& 31) = 7
      · refine vv_tableIn (tgt := 377) C 7 s7 dL_law_33 (by decide +kernel) (by decide +kernel) rfl (by decide) ?_
        exact lc_tells C hE hX hbl hbA hL31 hi6 (by omega) (by omega) hI nx
      by_cases s8 : (xs i &&& 31) = 8
      · refine vv_tableIn (tgt := 446) C 8 s8 dL_law_33 (by decide +kernel) (by decide +kernel) rfl (by decide) ?_
        exact lc_breaches C hE hX hbl hbA hL31 hi6 (by omega) (by omega) hI nx
      by_cases s9 : (xs i &&& 31) = 9
      · refine vv_tableIn (tgt := 469) C 9 s9 dL_law_33 (by decide +kernel) (by decide +kernel) rfl (by decide) ?_
        exact lc_weighs C hE hX hbl hbA hL31 hi6 (by omega) (by omega) hI nx
      by_cases s10 : (xs i &&& 31) = 10
      · refine vv_tableIn (tgt := 492) C 10 s10 dL_law_33 (by decide +kernel) (by decide +kernel) rfl (by decide) ?_
        exact lc_vouches C hE hX hbl hbA hL31 hi6 (by omega) (by omega) hI nx
      by_cases s11 : (xs i &&& 31) = 11
      · refine vv_tableIn (tgt := 525) C 11 s11 dL_law_33 (by decide +kernel) (by decide +kernel) rfl (by decide) ?_
        exact lc_trust C hE hX hbl hbA hL31 hi6 (by omega) (by omega) hI nx
      by_cases s12 : (xs i &&& 31) = 12
      · refine vv_tableIn (tgt := 558) C 12 s12 dL_law_33 (by decide +kernel) (by decide +kernel) rfl (by decide) ?_
        exact lc_sell C hE hX hbl hbA hL31 hi6 (by omega) (by omega) hI nx
      by_cases s13 : (xs i &&& 31) = 13
      · refine vv_tableIn (tgt := 591) C 13 s13 dL_law_33 (by decide +kernel) (by decide +kernel) rfl (by decide) ?_
        exact lc_year C hE hX hbl hbA hL31 hi6 (by omega) (by omega) hI nx
      by_cases s14 : (xs i &&& 31) = 14
      · refine vv_tableIn (tgt := 604) C 14 s14 dL_law_33 (by decide +kernel) (by decide +kernel) rfl (by decide) ?_
        exact lc_sealed C hE hX hbl hbA hL31 hi6 (by omega) (by omega) hI nx
      by_cases s15 : (xs i &&& 31) = 15
      · refine vv_tableIn (tgt := 627) C 15 s15 dL_law_33 (by decide +kernel) (by decide +kernel) rfl (by decide) ?_
        exact lc_barred C hE hX hbl hbA hL31 hi6 (by omega) (by omega) hI nx
      by_cases s16 : (xs i &&& 31) = 16
      · refine vv_tableIn (tgt := 660) C 16 s16 dL_law_33 (by decide +kernel) (by decide +kernel) rfl (by decide) ?_
        exact lc_look C hE hX hbl hbA hL31 hi6 (by omega) (by omega) hI nx
      by_cases s17 : (xs i &&& 31) = 17
      · refine vv_tableIn (tgt := 693) C 17 s17 dL_law_33 (by decide +kernel) (by decide +kernel) rfl (by decide) ?_
        exact lc_count C hE hX hbl hbA hL31 hi6 (by omega) (by omega) hI nx
      have t0 := lv_neT s0 (a := 0) (by decide +kernel)
      have t1 := lv_neT s1 (a := 1) (by decide +kernel)
      have t2 := lv_neT s2 (a := 2) (by decide +kernel)
      have t3 := lv_neT s3 (a := 3) (by decide +kernel)
      have t4 := lv_neT s4 (a := 4) (by decide +kernel)
      have t5 := lv_neT s5 (a := 5) (by decide +kernel)
      have t6 := lv_neT s6 (a := 6) (by decide +kernel)
      have t7 := lv_neT s7 (a := 7) (by decide +kernel)
      have t8 := lv_neT s8 (a := 8) (by decide +kernel)
      have t9 := lv_neT s9 (a := 9) (by decide +kernel)
      have t10 := lv_neT s10 (a := 10) (by decide +kernel)
      have t11 := lv_neT s11 (a := 11) (by decide +kernel)
      have t12 := lv_neT s12 (a := 12) (by decide +kernel)
      have t13 := lv_neT s13 (a := 13) (by decide +kernel)
      have t14 := lv_neT s14 (a := 14) (by decide +kernel)
      have t15 := lv_neT s15 (a := 15) (by decide +kernel)
      have t16 := lv_neT s16 (a := 16) (by decide +kernel)
      have t17 := lv_neT s17 (a := 17) (by decide +kernel)
      refine vv_tableOut (tgt := 716) C dL_law_33 (by omega) (by decide) ?_
      exact nx n k fad σx σm (by omega) (by omega) hI
