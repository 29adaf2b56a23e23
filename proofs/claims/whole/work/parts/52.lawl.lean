theorem and15 (x : Int) : 0 ≤ iAnd x 15 ∧ iAnd x 15 ≤ 15 := by
  obtain ⟨j, hj, he⟩ := pk_andE (oi x) (m := oi 15) 4 (by decide)
  have hr : inR (j : Int) := ⟨by omega, by omega⟩
  have hz : nI j = oi (j : Int) := Int32.ofInt_eq_ofNat.symm
  unfold iAnd
  rw [he, hz, oi_toInt hr]
  omega
set_option maxRecDepth 100000 in
set_option maxHeartbeats 4000000 in
theorem law_loop {p : Program} {l : Launch} {e : Env} {s : State} {m : MethodId} {below : List Frame} {meth : Method} {c : Code} {D : va_G} {ca : Nat → ClassId} {adC adM : Nat → Nat} {b L tb : Nat} {xs : Nat → Int32} (X : Cx p s m #[Value.ref b] c code 4 R_law lw_tbl D vcl ca) (hX : va_X b L xs s s.heap) (hbl : b < s.heap.size) (hL : L < 2147483648) (hr : meth.sig.returnType = ret) (hlk : meth.locks = false) (hN : NC s) (hZ : va_Z "SiteObjects" "SORTS" "[I" (.ref tb) (AL s) s s.heap) (hT : va_T .int tb 68 (fun j => .int (oi (sortsT j))) (AL s) s s.heap) {Inv : Mm → Mm → Prop} (hS : StAll Inv) (hL2 : L ≤ 3584) : ∀ (n : Nat) (i : Int) (σC σM : Mm), 0 ≤ i → i ≤ 4000 → (L : Int) < i + 7 * n → Rg σC → Rg σM → Inv σC σM → GL p l e s m below meth c (lw_Z below #[Value.ref b] s) D ca adC adM b 18 [(0, .ref b), (1, .ref (adC 0)), (2, .ref (adM 0)), (3, .int (oi i))] [] σC σM := by
  intro n
  induction n with
  | zero =>
    intro i σC σM h0 h9 h1 hC hM hI
    refine l_iload_n X 3 rfl dL_law_18 ?_
    refine l_aload_n X 0 rfl dL_law_19 ?_
    refine l_slen X hX hbl dL_law_20 ?_
    refine l_bipush X (by decide) dL_law_21 ?_
    refine l_isub X dL_law_23 ?_
    refine l_gt X (by omega) (by omega) 691 dL_law_24 (by decide) (fun _ => ?_) (fun hc => absurd (by omega) hc)
    refine l_iconst X dL_law_691 ?_
    exact l_ret X hr hlk dL_law_692
  | succ n ih =>
    intro i σC σM h0 h9 h1 hC hM hI
    refine l_iload_n X 3 rfl dL_law_18 ?_
    refine l_aload_n X 0 rfl dL_law_19 ?_
    refine l_slen X hX hbl dL_law_20 ?_
    refine l_bipush X (by decide) dL_law_21 ?_
    refine l_isub X dL_law_23 ?_
    refine l_gt X (by omega) (by omega) 691 dL_law_24 (by decide) (fun _ => ?_) (fun hc => ?_)
    · refine l_iconst X dL_law_691 ?_
      exact l_ret X hr hlk dL_law_692
    · have hk : ∀ σC σM : Mm, Rg σC → Rg σM → Inv σC σM → GL p l e s m below meth c (lw_Z below #[Value.ref b] s) D ca adC adM b 685 [(0, .ref b), (1, .ref (adC 0)), (2, .ref (adM 0)), (3, .int (oi i))] [] σC σM := by
        intro σC σM hC hM hI
        refine l_iinc X [(3, .int (oi (i + 7))), (0, .ref b), (1, .ref (adC 0)), (2, .ref (adM 0))] dL_law_685 (by decide) 3 rfl rfl ?_
        refine l_goto X 18 (by decide) dL_law_688 ?_
        refine l_sub [(0, .ref b), (1, .ref (adC 0)), (2, .ref (adM 0)), (3, .int (oi (i + 7)))] [1, 2, 3, 0] rfl ?_
        exact ih (i + 7) σC σM (by omega) (by omega) (by omega) hC hM hI
      have hi : i + 7 ≤ (L : Int) := by omega
      refine l_aload_n X 0 rfl dL_law_27 ?_
      refine l_iload_n X 3 rfl dL_law_28 ?_
      refine l_sld X hX hbl hL (by omega) dL_law_29 ?_
      refine l_bipush X (by decide) dL_law_30 ?_
      refine l_iand X dL_law_32 ?_
      obtain ⟨g1, g2⟩ := and15 (sv xs (Int.toNat i))
      have hrg : inR (iAnd (sv xs (Int.toNat i)) 15) := ⟨by omega, by omega⟩
      generalize iAnd (sv xs (Int.toNat i)) 15 = z at g1 g2 hrg
      obtain ⟨s0, s1, s2, s3, s4, s5, s6, s7, s8, s9, s10, s11, s12, s13, s14, s15⟩ := hS
      rcases (show z = 0 ∨ z = 1 ∨ z = 2 ∨ z = 3 ∨ z = 4 ∨ z = 5 ∨ z = 6 ∨ z = 7 ∨ z = 8 ∨ z = 9 ∨ z = 10 ∨ z = 11 ∨ z = 12 ∨ z = 13 ∨ z = 14 ∨ z = 15 by omega) with hz | hz | hz | hz | hz | hz | hz | hz | hz | hz | hz | hz | hz | hz | hz | hz
      · exact l_tswIn X hrg 0 79 112 hz dL_law_33 (by decide) rfl (by decide) (lc_cls X hX hbl hL hN hZ hT s0 h0 hi hC hM hI hk)
      · exact l_tswIn X hrg 1 102 135 hz dL_law_33 (by decide) rfl (by decide) (lc_method X hX hbl hL hN hZ hT s1 h0 hi hC hM hI hk)
      · exact l_tswIn X hrg 2 135 168 hz dL_law_33 (by decide) rfl (by decide) (lc_step X hX hbl hL hN hZ hT s2 h0 hi hC hM hI hk)
      · exact l_tswIn X hrg 3 210 243 hz dL_law_33 (by decide) rfl (by decide) (lc_work X hX hbl hL hN hZ hT s3 h0 hi hC hM hI hk)
      · exact l_tswIn X hrg 4 253 286 hz dL_law_33 (by decide) rfl (by decide) (lc_name X hX hbl hL hN hZ hT s4 h0 hi hC hM hI hk)
      · exact l_tswIn X hrg 5 286 319 hz dL_law_33 (by decide) rfl (by decide) (lc_node X hX hbl hL hN hZ hT s5 h0 hi hC hM hI hk)
      · exact l_tswIn X hrg 6 319 352 hz dL_law_33 (by decide) rfl (by decide) (lc_held X hX hbl hL hN hZ hT s6 h0 hi hC hM hI hk)
      · exact l_tswIn X hrg 7 353 386 hz dL_law_33 (by decide) rfl (by decide) (lc_inside X hX hbl hL hN hZ hT s7 h0 hi hC hM hI hk)
      · exact l_tswIn X hrg 8 387 420 hz dL_law_33 (by decide) rfl (by decide) (lc_global X hX hbl hL hN hZ hT s8 h0 hi hC hM hI hk)
      · exact l_tswIn X hrg 9 411 444 hz dL_law_33 (by decide) rfl (by decide) (lc_leads X hX hbl hL hN hZ hT s9 h0 hi hC hM hI hk)
      · exact l_tswIn X hrg 10 454 487 hz dL_law_33 (by decide) rfl (by decide) (lc_run X hX hbl hL hN hZ hT s10 h0 hi hC hM hI hk)
      · exact l_tswIn X hrg 11 517 550 hz dL_law_33 (by decide) rfl (by decide) (lc_ran X hX hbl hL hN hZ hT s11 h0 hi hC hM hI hk)
      · exact l_tswIn X hrg 12 540 573 hz dL_law_33 (by decide) rfl (by decide) (lc_object X hX hbl hL hN hZ hT s12 h0 hi hC hM hI hk)
      · exact l_tswIn X hrg 13 573 606 hz dL_law_33 (by decide) rfl (by decide) (lc_many X hX hbl hL hN hZ hT s13 h0 hi hC hM hI hk)
      · exact l_tswIn X hrg 14 596 629 hz dL_law_33 (by decide) rfl (by decide) (lc_count X hX hbl hL hN hZ hT s14 h0 hi hC hM hI hk)
      · exact l_tswIn X hrg 15 619 652 hz dL_law_33 (by decide) rfl (by decide) (lc_within X hX hbl hL hN hZ hT s15 h0 hi hC hM hI hk)
