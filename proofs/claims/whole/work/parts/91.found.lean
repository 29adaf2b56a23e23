/-! WHAT WAS FOUND, kept by all that does not touch it -/
def AG (o : Nat) (σ σ' : Mm) : Prop := (∀ k, 1 ≤ k → k ≤ 14 → σ'.1 k = σ.1 k) ∧ (∀ k, o ≤ k → k ≤ o + 13 → k ≠ o + 5 → k ≠ o + 6 → k ≠ o + 7 → σ'.1 k = σ.1 k) ∧ ∀ k, o ≤ k → k ≤ o + 13 → k ≠ o + 8 → σ'.2 k = σ.2 k
def MG (τ τ' : Mm) : Prop := (∀ k, 1 ≤ k → k ≤ 20 → τ'.1 k = τ.1 k ∧ τ'.2 k = τ.2 k) ∧ ∀ j, j < 34 → j ≠ 16 → j ≠ 20 → τ'.1 0 j = τ.1 0 j
theorem AG.rf {o : Nat} {σ : Mm} : AG o σ σ := ⟨fun _ _ _ => rfl, fun _ _ _ _ _ _ => rfl, fun _ _ _ _ => rfl⟩
theorem AG.tr {o : Nat} {a b c : Mm} (h1 : AG o a b) (h2 : AG o b c) : AG o a c := ⟨fun k q1 q2 => (h2.1 k q1 q2).trans (h1.1 k q1 q2), fun k q1 q2 q3 q4 q5 => (h2.2.1 k q1 q2 q3 q4 q5).trans (h1.2.1 k q1 q2 q3 q4 q5), fun k q1 q2 q3 => (h2.2.2 k q1 q2 q3).trans (h1.2.2 k q1 q2 q3)⟩
theorem MG.rf {τ : Mm} : MG τ τ := ⟨fun _ _ _ => ⟨rfl, rfl⟩, fun _ _ _ _ => rfl⟩
theorem MG.tr {a b c : Mm} (h1 : MG a b) (h2 : MG b c) : MG a c := ⟨fun k q1 q2 => ⟨(h2.1 k q1 q2).1.trans (h1.1 k q1 q2).1, (h2.1 k q1 q2).2.trans (h1.1 k q1 q2).2⟩, fun j hj j1 j2 => (h2.2 j hj j1 j2).trans (h1.2 j hj j1 j2)⟩
theorem CF8_AG {o : Nat} (ho : o = 15 ∨ o = 29) {σ σ' : Mm} (h : CF8 o σ σ') : AG o σ σ' := ⟨prog_side ho h, fun k _ _ q3 q4 q5 => h.1 k q3 q4 q5, fun k _ _ q => h.2 k q⟩
theorem LO_MG {τ τ' : Mm} (h : LO τ τ') : MG τ τ' := ⟨fun k q1 q2 => ⟨LO_row h (by omega), by rw [h.2]⟩, fun j hj _ _ => h.1 0 j (by omega)⟩
theorem PR_gen {σ σ' τ τ' : Mm} (h : PR σ τ) (hC : ∀ k, 1 ≤ k → k ≤ 14 → σ'.1 k = σ.1 k) (hM : MG τ τ') : PR σ' τ' :=
  PR_congr h hC (fun k q1 q2 => (hM.1 k q1 (by omega)).1) (hM.2 0 (by omega) (by omega) (by omega)) (hM.2 2 (by omega) (by omega) (by omega)) (hM.2 7 (by omega) (by omega) (by omega)) (hM.2 8 (by omega) (by omega) (by omega))
theorem RF_gen {o : Nat} {σ σ' τ τ' : Mm} (h : RF o σ τ) (hc : AG o σ σ') (ht : MG τ τ') : RF o σ' τ' := by
  have hPR := PR_gen h.1 hc.1 ht
  obtain ⟨hP, hs, hn, hxx, hh, hi, hg, hb, hu⟩ := h
  obtain ⟨c, d, l⟩ := hc
  have e := ht.2
  have r : ∀ k, 1 ≤ k → k ≤ 20 → τ'.1 k = τ.1 k := fun k q1 q2 => (ht.1 k q1 q2).1
  have r2 : ∀ k, 1 ≤ k → k ≤ 20 → τ'.2 k = τ.2 k := fun k q1 q2 => (ht.1 k q1 q2).2
  have e24 := e 24 (by omega) (by omega) (by omega); have e29 := e 29 (by omega) (by omega) (by omega); have e22 := e 22 (by omega) (by omega) (by omega); have e18 := e 18 (by omega) (by omega) (by omega); have e19 := e 19 (by omega) (by omega) (by omega); have e21 := e 21 (by omega) (by omega) (by omega)
  have e13 := r 13 (by omega) (by omega); have e14 := r 14 (by omega) (by omega); have e15 := r 15 (by omega) (by omega); have e17 := r 17 (by omega) (by omega); have e18' := r 18 (by omega) (by omega)
  have xse : ∀ i, xst τ' i = xst τ i := fun i => by unfold xst; rw [e17]
  have mce : ∀ i, mcl σ' i = mcl σ i := fun i => by unfold mcl; rw [c 8 (by omega) (by omega), c 10 (by omega) (by omega)]
  have bwe : ∀ a b, blw σ' a b = blw σ a b := fun a b => by unfold blw; rw [c 2 (by omega) (by omega)]
  have p1 := c 1 (by omega) (by omega)
  have p8 := c 8 (by omega) (by omega)
  have p13 := c 13 (by omega) (by omega)
  refine ⟨hPR, ?_, ?_, ?_, ?_, ?_, ?_, ?_, ?_⟩
  · unfold RFs; rw [d (o + 9) (by omega) (by omega) (by omega) (by omega) (by omega), d o (by omega) (by omega) (by omega) (by omega) (by omega), e24, e29, e22, e18, e19, e21]; exact hs
  · unfold RFn; rw [d (o + 10) (by omega) (by omega) (by omega) (by omega) (by omega), d (o + 11) (by omega) (by omega) (by omega) (by omega) (by omega), p1, e24, e13, e14, e15, e19]; exact hn
  · unfold RFx; simp only [xse]; rw [d (o + 12) (by omega) (by omega) (by omega) (by omega) (by omega), d (o + 13) (by omega) (by omega) (by omega) (by omega) (by omega), p1, p8, p13, e29, e24, e17, e18', e13]; exact hxx
  · unfold RFh; rw [l (o + 1) (by omega) (by omega) (by omega), e24, e29, r2 16 (by omega) (by omega)]; exact hh
  · unfold RFi; rw [l (o + 2) (by omega) (by omega) (by omega), e29, r2 19 (by omega) (by omega)]; exact hi
  · unfold RFg; rw [l (o + 3) (by omega) (by omega) (by omega), e29, r2 20 (by omega) (by omega)]; exact hg
  · unfold RFb; simp only [mce, bwe, xse]; rw [l (o + 4) (by omega) (by omega) (by omega), l o (by omega) (by omega) (by omega), p1, p8, e29]; exact hb
  · unfold RFu; rw [e24, e29, e13, e14, e15, e17, e18']; exact hu
theorem MG_Eqv {τ τ' : Mm} (h : MG τ τ') : Eqv τ τ' := ⟨⟨h.2 24 (by omega) (by omega) (by omega), h.2 29 (by omega) (by omega) (by omega), h.2 18 (by omega) (by omega) (by omega), h.2 19 (by omega) (by omega) (by omega)⟩, fun n _ => ⟨by rw [(h.1 13 (by omega) (by omega)).1], by rw [(h.1 14 (by omega) (by omega)).1], by rw [(h.1 15 (by omega) (by omega)).1]⟩, fun n _ => ⟨by rw [(h.1 17 (by omega) (by omega)).1], by rw [(h.1 18 (by omega) (by omega)).1]⟩, fun n _ => by rw [(h.1 16 (by omega) (by omega)).2], fun n _ => by rw [(h.1 19 (by omega) (by omega)).2], fun n _ => by rw [(h.1 20 (by omega) (by omega)).2]⟩
theorem LedY_MG {σC τ τ' : Mm} (h : MG τ τ') (k s t y : Nat) : LedY σC τ' k s t y = LedY σC τ k s t y := by
  unfold LedY mnt xst ask1 ask2
  rw [(h.1 13 (by omega) (by omega)).1, (h.1 14 (by omega) (by omega)).1, (h.1 15 (by omega) (by omega)).1, (h.1 17 (by omega) (by omega)).1, (h.1 18 (by omega) (by omega)).1, (h.1 16 (by omega) (by omega)).2, h.2 18 (by omega) (by omega) (by omega), h.2 19 (by omega) (by omega) (by omega)]
theorem LedB_MG {σC τ τ' : Mm} (h : MG τ τ') (k s t : Nat) : LedB σC τ' k s t = LedB σC τ k s t := by
  have e : LedY σC τ' k s t = LedY σC τ k s t := by funext y; exact LedY_MG h k s t y
  unfold LedB call1 call2
  rw [e, (h.1 13 (by omega) (by omega)).1, (h.1 14 (by omega) (by omega)).1, (h.1 15 (by omega) (by omega)).1, h.2 18 (by omega) (by omega) (by omega), h.2 19 (by omega) (by omega) (by omega), h.2 29 (by omega) (by omega) (by omega)]
theorem ldP_MG {σ τ τ' : Mm} (h : MG τ τ') (j u : Nat) : ∀ q, ldP σ τ' j u q = ldP σ τ j u q
  | 0 => rfl
  | q + 1 => by
    show ldP σ τ' j u q + (if LedB σ τ' j (ln σ (mOf τ' j) q) u then 1 else 0) = ldP σ τ j u q + (if LedB σ τ j (ln σ (mOf τ j) q) u then 1 else 0)
    have : mOf τ' j = mOf τ j := by unfold mOf; rw [(h.1 13 (by omega) (by omega)).1]
    rw [ldP_MG h j u q, this, LedB_MG h]
theorem ldN_MG {σ τ τ' : Mm} (h : MG τ τ') (u : Nat) : ∀ n, ldN σ τ' u n = ldN σ τ u n
  | 0 => rfl
  | n + 1 => by
    show ldN σ τ' u n + ldP σ τ' n u (lenOf σ τ' n) = ldN σ τ u n + ldP σ τ n u (lenOf σ τ n)
    have : lenOf σ τ' n = lenOf σ τ n := by unfold lenOf mOf; rw [(h.1 13 (by omega) (by omega)).1]
    rw [ldN_MG h u n, this, ldP_MG h]
theorem lrN_MG {σ τ τ' : Mm} (h : MG τ τ') (u : Nat) : ∀ n, lrN σ τ' u n = lrN σ τ u n
  | 0 => rfl
  | n + 1 => by
    show (if 0 < ldP σ τ' n u (lenOf σ τ' n) then n else lrN σ τ' u n) = (if 0 < ldP σ τ n u (lenOf σ τ n) then n else lrN σ τ u n)
    have : lenOf σ τ' n = lenOf σ τ n := by unfold lenOf mOf; rw [(h.1 13 (by omega) (by omega)).1]
    rw [lrN_MG h u n, this, ldP_MG h]
theorem onB_MG {σ τ τ' : Mm} (h : MG τ τ') (K : Nat) : ∀ f n, onB σ τ' K f n = onB σ τ K f n
  | 0, _ => rfl
  | f + 1, n => by
    show (if n = 0 then decide (ldN σ τ' 0 K = 0) else decide (ldN σ τ' n K = 1) && onB σ τ' K f (lrN σ τ' n K)) = (if n = 0 then decide (ldN σ τ 0 K = 0) else decide (ldN σ τ n K = 1) && onB σ τ K f (lrN σ τ n K))
    rw [ldN_MG h, ldN_MG h, lrN_MG h, onB_MG h K f]
theorem FdEnd_gen {o : Nat} {σ σ' τ τ' : Mm} (h : FdEnd o σ τ) (hc : AG o σ σ') (ht : MG τ τ') : FdEnd o σ' τ' := by
  obtain ⟨h1, h2, h3, h4, h5, h6⟩ := h
  have e := ht.2
  refine ⟨RF_gen h1 hc ht, by rw [hc.2.1 (o + 9) (by omega) (by omega) (by omega) (by omega) (by omega)]; exact h2, by rw [e 23 (by omega) (by omega) (by omega)]; exact h3, by rw [e 22 (by omega) (by omega) (by omega)]; exact h4, fun t h0 htt => ?_, fun n p hn hp => ?_⟩
  · rw [e 24 (by omega) (by omega) (by omega)] at htt
    obtain ⟨k, s, q1, q2, q3, q4⟩ := h5 t h0 htt
    exact ⟨k, s, q1, by rw [hc.1 1 (by omega) (by omega)]; exact q2, by rw [hc.1 13 (by omega) (by omega), (ht.1 13 (by omega) (by omega)).1]; exact q3, LedB_iff.mp (by rw [LedB_MG ht, LedB_prog hc.1]; exact LedB_iff.mpr q4)⟩
  · rw [e 24 (by omega) (by omega) (by omega)] at hn
    rw [(ht.1 13 (by omega) (by omega)).1] at hp ⊢
    rw [hc.1 6 (by omega) (by omega)] at hp
    have el : ∀ m q, ln σ' m q = ln σ m q := fun m q => by unfold ln; rw [hc.1 7 (by omega) (by omega)]
    rw [el]
    obtain ⟨-, n3, -⟩ := h1.2.2.1 n hn
    obtain ⟨l1, -, -, l4, -⟩ := PR_ln h1.1 (m := Int.toNat (τ.1 13 n)) (p := p) (by omega) hp
    exact Cl_eqv h1 hc.1 (MG_Eqv ht) hn l1 (by rw [l4]; omega) (h6 n p hn hp)
/-! the search, both sides -/
def LdOk (o : Nat) (σ τ : Mm) : Prop := ∀ K : Nat, τ.1 0 24 = K → ∀ i, i < K → σ.1 (o + 5) i = (ldN σ τ i K : Nat) ∧ σ.1 (o + 7) i = b01 (onB σ τ K (i + 1) i = true)
theorem find_sim {o : Nat} (ho : o = 15 ∨ o = 29) {σC τ : Mm} (hP : PR σC τ) {start mode depth : Int} (hst : τ.1 0 17 = start) (rm : 0 ≤ mode ∧ mode ≤ 2) (rd : 0 ≤ depth ∧ depth ≤ 2) (rs : 0 ≤ start ∧ start < σC.1 1 1) : ∃ r σ' τ', f_X0_find o start mode depth σC = some (r, σ') ∧ f_X7_findsAll mode depth τ = some τ' ∧ CF o σC σ' ∧ MF3 τ τ' ∧ FdEnd o σ' τ' ∧ Root τ' start ∧ LdOk o σ' τ' ∧ r = τ'.1 0 19 ∧ τ'.1 0 18 = mode ∧ τ'.1 0 17 = start := by
  obtain ⟨d, hd⟩ : ∃ d : Nat, depth = d := ⟨Int.toNat depth, by omega⟩
  have m3 : MF3 τ (stI (stI τ 0 18 mode) 0 19 depth) := (MF3_st (Or.inl rfl)).tr (MF3_st (Or.inr rfl))
  obtain ⟨σ1, τ1, w1, w2, w3, w4, w5, w6, w7, w8⟩ := search_aux ho rm d 2000 2000 σC (stI (stI τ 0 18 mode) 0 19 depth) (PR_frame3 ho hP CF.rf m3) (by rw [stI_1, if_neg (by omega), stI_1, if_pos ⟨rfl, rfl⟩]) (by rw [stI_1, if_pos ⟨rfl, rfl⟩]; exact hd) (by rw [stI_1, if_neg (by omega), stI_1, if_neg (by omega)]; exact hst) (by omega) rs (by omega) (by omega)
  obtain ⟨K, hK⟩ : ∃ K : Nat, τ1.1 0 24 = K := ⟨Int.toNat (τ1.1 0 24), by have := w6.1; omega⟩
  obtain ⟨σ2, v1, v2, v3, v4⟩ := e_countLeaders ho w5.1 w5.2.2.2.2.1 hK (by have := w6.1; omega)
  have hpr := prog_side ho v3
  refine ⟨σ2.1 (o + 9) 1, σ2, τ1, ?_, ?_, w3.tr (CF8_CF v3), m3.tr w4, FdEnd_gen w5 (CF8_AG ho v3) MG.rf, w6, fun K' hK' i hi => ?_, ?_, w7, w8⟩
  · unfold f_X0_find
    rw [hd, w1, v1, bind_s]
  · unfold f_X7_findsAll
    exact w2
  · obtain rfl : K' = K := by omega
    rw [ldN_prog hpr, onB_prog hpr]
    exact v4 i hi
  · exact v2.2.1.1.2.2.2.1
/-! the invariant -/
/-- the class's search, from some content with this PROGRAM, gave what lies there now -/
def Again (σC σM : Mm) : Prop := ∃ r σ0 σ1, (∀ k, 1 ≤ k → k ≤ 14 → σ0.1 k = σC.1 k) ∧ f_X0_find 15 (σC.1 0 4) (σM.1 0 18) (σM.1 0 20) σ0 = some (r, σ1) ∧ (∀ k, 15 ≤ k → k ≤ 28 → σC.1 k = σ1.1 k) ∧ ∀ k, 15 ≤ k → k ≤ 28 → k ≠ 23 → σC.2 k = σ1.2 k
def FDn (σC σM : Mm) : Prop := FdEnd 15 σC σM ∧ Root σM (σC.1 0 4) ∧ LdOk 15 σC σM ∧ σM.1 0 17 = σC.1 0 4 ∧ (0 ≤ σC.1 0 4 ∧ σC.1 0 4 < σC.1 1 1) ∧ (0 ≤ σM.1 0 20 ∧ σM.1 0 20 ≤ 2) ∧ Again σC σM
/-- the class keeps the PROGRAM and what was found -/
def KC (σ σ' : Mm) : Prop := (∀ k, 1 ≤ k → k ≤ 28 → σ'.1 k = σ.1 k) ∧ (∀ k, 15 ≤ k → k ≤ 28 → k ≠ 23 → σ'.2 k = σ.2 k) ∧ σ'.1 0 4 = σ.1 0 4
theorem KC_AG {σ σ' : Mm} (h : KC σ σ') : AG 15 σ σ' := ⟨fun k q1 q2 => h.1 k q1 (by omega), fun k q1 q2 _ _ _ => h.1 k (by omega) q2, fun k q1 q2 q3 => h.2.1 k q1 q2 (by omega)⟩
theorem FDn_gen {σC σC' σM σM' : Mm} (h : FDn σC σM) (hc : KC σC σC') (ht : MG σM σM') (h20 : σM'.1 0 20 = σM.1 0 20) : FDn σC' σM' := by
  obtain ⟨h1, h2, h3, h4, h5, h6, r, σ0, σ1, a1, a2, a3, a4⟩ := h
  have e := ht.2
  have hpr : ∀ k, 1 ≤ k → k ≤ 14 → σC'.1 k = σC.1 k := fun k q1 q2 => hc.1 k q1 (by omega)
  refine ⟨FdEnd_gen h1 (KC_AG hc) ht, ?_, fun K hK i hi => ?_, ?_, ?_, ?_, r, σ0, σ1, ?_, ?_, ?_, ?_⟩
  · unfold Root
    rw [hc.2.2, e 24 (by omega) (by omega) (by omega), (ht.1 13 (by omega) (by omega)).1, (ht.1 14 (by omega) (by omega)).1, (ht.1 15 (by omega) (by omega)).1]
    exact h2
  · rw [e 24 (by omega) (by omega) (by omega)] at hK
    rw [ldN_MG ht, onB_MG ht, ldN_prog hpr, onB_prog hpr, hc.1 (15 + 5) (by omega) (by omega), hc.1 (15 + 7) (by omega) (by omega)]
    exact h3 K hK i hi
  · rw [e 17 (by omega) (by omega) (by omega), hc.2.2]; exact h4
  · rw [hc.2.2, hpr 1 (by omega) (by omega)]; exact h5
  · rw [h20]; exact h6
  · intro k q1 q2; rw [hpr k q1 q2]; exact a1 k q1 q2
  · rw [hc.2.2, e 18 (by omega) (by omega) (by omega), h20]; exact a2
  · intro k q1 q2; rw [hc.1 k (by omega) q2]; exact a3 k q1 q2
  · intro k q1 q2 q3; rw [hc.2.1 k q1 q2 q3]; exact a4 k q1 q2 q3
