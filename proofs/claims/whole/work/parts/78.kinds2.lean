/-! STORE -/
theorem lrest_next {x : Int64} {k : Nat} (hk : k + 1 < 64) (h : lShr x (k : Int) = 0) : lShr x ((k + 1 : Nat) : Int) = 0 :=
  (lrest0 x hk).mpr (fun i hi => (lrest0 x (by omega)).mp h i (by omega))
theorem store_aux {o : Nat} (ho : o = 15 ∨ o = 29) {N fl : Nat} (h60 : N ≤ 60) (hfl : fl < 4) {ones bc th : Int64} : ∀ (k f x : Nat) (σC τ : Mm), RF o σC τ → τ.1 0 29 = N → (∀ i, lb th i = true → i < N) → (∀ i, lb bc i = true ↔ lb ones i = true ∧ ¬ σC.1 8 (xst τ i) = 1) → x + k = N → k < f → ∃ σC' τ', f_X0_storeInAll_3 o f bc fl th x σC = some σC' ∧ f_X7_goes_289 f fl th ones x τ = some τ' ∧ Gr o σC τ σC' τ' ∧ (τ'.1 0 22 = 0 → ∀ y, (x ≤ y ∧ y < N) → lb ones y = true → ¬ σC.1 8 (xst τ y) = 1 → ∀ i, lb th i = true → lb (τ.2 19 (5 * y + fl)) i = true) := by
  have h15 : 15 ≤ o := by rcases ho with rfl | rfl <;> decide
  intro k
  induction k with
  | zero =>
    intro f x σC τ h hN hth hbc hx hf
    obtain ⟨⟨t1, t2, -⟩, s7, s8, s9, s10, s11⟩ := h.2.1
    obtain ⟨f, rfl⟩ : ∃ g, f = g + 1 := ⟨f - 1, by omega⟩
    rw [f_X0_storeInAll_3, f_X7_goes_289, if_pos (show σC.1 (o + 9) 3 ≤ (x : Int) by omega), if_pos (show τ.1 0 29 ≤ (x : Int) by omega)]
    exact ⟨σC, τ, rfl, rfl, Gr.rf h, fun _ y hy => by omega⟩
  | succ k ih =>
    intro f x σC τ h hN hth hbc hx hf
    obtain ⟨⟨t1, t2, -⟩, s7, s8, s9, s10, s11⟩ := h.2.1
    obtain ⟨f, rfl⟩ : ∃ g, f = g + 1 := ⟨f - 1, by omega⟩
    obtain ⟨g, rfl⟩ : ∃ g, f = g + 1 := ⟨f - 1, by omega⟩
    have cc : (x : Int) + 1 = ((x + 1 : Nat) : Int) := by omega
    have hrow := g_isRow h (show (x : Int) < τ.1 0 29 by omega)
    have eM : ¬ (lb ones x = true ∧ ¬ σC.1 8 (xst τ x) = 1) → f_X7_goes_289 (g + 1 + 1) fl th ones x τ = f_X7_goes_289 (g + 1) fl th ones ((x + 1 : Nat) : Int) τ := fun hno => by
      rw [f_X7_goes_289, if_neg (by omega)]
      by_cases hb : lb ones x = true
      · rw [if_pos ((lbit1 ones (by omega)).mpr hb), hrow, bind_s]
        by_cases hr : σC.1 8 (xst τ x) = 1
        · rw [b01_t hr, if_neg (by decide), ck_pos (by omega), cc]
        · exact absurd ⟨hb, hr⟩ hno
      · rw [if_neg (fun z => hb ((lbit1 ones (by omega)).mp z)), ck_pos (by omega), cc]
    by_cases h0 : lShr bc x = 0
    · have hno : ¬ (lb ones x = true ∧ ¬ σC.1 8 (xst τ x) = 1) := fun z => by
        have := (hbc x).mpr z
        rw [(lrest0 bc (by omega)).mp h0 x (by omega)] at this; cases this
      obtain ⟨σC', τ', r1, r2, r3, r4⟩ := ih (g + 1) (x + 1) σC τ h hN hth hbc (by omega) (by omega)
      rw [eM hno]
      have ex : f_X0_storeInAll_3 o (g + 1 + 1) bc fl th x σC = f_X0_storeInAll_3 o (g + 1) bc fl th ((x + 1 : Nat) : Int) σC := by
        rw [f_X0_storeInAll_3, if_neg (by omega), if_pos h0, f_X0_storeInAll_3]
        by_cases hxe : σC.1 (o + 9) 3 ≤ ((x + 1 : Nat) : Int)
        · rw [if_pos hxe]
        · rw [if_neg hxe, if_pos (lrest_next (by omega) h0)]
      rw [ex]
      refine ⟨σC', τ', r1, r2, r3, fun z y hy q1 q2 => ?_⟩
      by_cases e : y = x
      · subst e; exact absurd ⟨q1, q2⟩ hno
      · exact r4 z y (by omega) q1 q2
    · by_cases hb : lb ones x = true ∧ ¬ σC.1 8 (xst τ x) = 1
      · have hbb := (hbc x).mpr hb
        obtain ⟨σ1, τ1, q1, q2, q3, q4⟩ := lies_sim ho h (show (x : Int) < τ.1 0 29 by omega) (show fl < 5 by omega) (x := th) (fun i hi => by have := hth i hi; omega)
        have xse : ∀ i, xst τ1 i = xst τ i := fun i => by unfold xst; rw [q3.2.2.1 17 i (by omega)]
        have p8 : ∀ i, σ1.1 8 i = σC.1 8 i := fun i => q3.2.2.2.1 8 i (by omega)
        have e29 := q3.2.2.1 0 29 (by decide)
        obtain ⟨σC', τ', r1, r2, r3, r4⟩ := ih (g + 1) (x + 1) σ1 τ1 q3.1 (by omega) hth (fun i => by rw [xse, p8]; exact hbc i) (by omega) (by omega)
        refine ⟨σC', τ', ?_, ?_, q3.tr r3, fun z y hy w1 w2 => ?_⟩
        · rw [f_X0_storeInAll_3, if_neg (by omega), if_neg h0, if_neg (fun z => by rw [(lbit0 bc (by omega)).mp z] at hbb; cases hbb), q1, bind_s, ck_pos (by omega), cc, r1]
        · rw [f_X7_goes_289, if_neg (by omega), if_pos ((lbit1 ones (by omega)).mpr hb.1), hrow, bind_s, b01_f hb.2, if_pos rfl, q2, bind_s, ck_pos (by omega), cc, r2]
        · obtain ⟨z1, z2⟩ := r3.2.1.same z
          by_cases e : y = x
          · subst e; exact HdM_sub q4 z1
          · intro i hi
            have := r4 z y (by omega) w1 (by rw [xse, p8]; exact w2) i hi
            rw [(q3.2.1.same z1).2.2.2.2.1 _ (by omega)] at this
            exact this
      · have hbb : ¬ lb bc x = true := fun z => hb ((hbc x).mp z)
        obtain ⟨σC', τ', r1, r2, r3, r4⟩ := ih (g + 1) (x + 1) σC τ h hN hth hbc (by omega) (by omega)
        rw [eM hb]
        refine ⟨σC', τ', ?_, r2, r3, fun z y hy q1 q2 => ?_⟩
        · rw [f_X0_storeInAll_3, if_neg (by omega), if_neg h0, if_pos ((lbit0 bc (by omega)).mpr (by simpa using hbb)), ck_pos (by omega), cc, r1]
        · by_cases e : y = x
          · subst e; exact absurd ⟨q1, q2⟩ hb
          · exact r4 z y (by omega) q1 q2
/-! LAY -/
theorem lay_aux {o : Nat} (ho : o = 15 ∨ o = 29) {N : Nat} (h60 : N ≤ 60) {ones bc th : Int64} : ∀ (k f x : Nat) (σC τ : Mm), RF o σC τ → τ.1 0 29 = N → (∀ i, lb th i = true → i < N) → (∀ i, lb bc i = true ↔ lb ones i = true ∧ (i < N ∧ σC.1 8 (xst τ i) = 1)) → x + k = N → k < f → ∃ σC' τ', f_X0_layInAll_3 o f bc th x σC = some σC' ∧ f_X7_goes_341 f th ones x τ = some τ' ∧ Gr o σC τ σC' τ' ∧ (τ'.1 0 22 = 0 → ∀ y, (x ≤ y ∧ y < N) → lb ones y = true → σC.1 8 (xst τ y) = 1 → ∀ i, lb th i = true → blw σC (mcl σC (xst τ i)) (Int.toNat (σC.1 10 (xst τ y))) = true → lb (τ.2 19 (5 * y + 4)) i = true) := by
  have h15 : 15 ≤ o := by rcases ho with rfl | rfl <;> decide
  intro k
  induction k with
  | zero =>
    intro f x σC τ h hN hth hbc hx hf
    obtain ⟨⟨t1, t2, -⟩, s7, s8, s9, s10, s11⟩ := h.2.1
    obtain ⟨f, rfl⟩ : ∃ g, f = g + 1 := ⟨f - 1, by omega⟩
    rw [f_X0_layInAll_3, f_X7_goes_341, if_pos (show σC.1 (o + 9) 3 ≤ (x : Int) by omega), if_pos (show τ.1 0 29 ≤ (x : Int) by omega)]
    exact ⟨σC, τ, rfl, rfl, Gr.rf h, fun _ y hy => by omega⟩
  | succ k ih =>
    intro f x σC τ h hN hth hbc hx hf
    obtain ⟨⟨t1, t2, -⟩, s7, s8, s9, s10, s11⟩ := h.2.1
    obtain ⟨f, rfl⟩ : ∃ g, f = g + 1 := ⟨f - 1, by omega⟩
    obtain ⟨g, rfl⟩ : ∃ g, f = g + 1 := ⟨f - 1, by omega⟩
    have cc : (x : Int) + 1 = ((x + 1 : Nat) : Int) := by omega
    have hrow := g_isRow h (show (x : Int) < τ.1 0 29 by omega)
    have eM : ¬ (lb ones x = true ∧ σC.1 8 (xst τ x) = 1) → f_X7_goes_341 (g + 1 + 1) th ones x τ = f_X7_goes_341 (g + 1) th ones ((x + 1 : Nat) : Int) τ := fun hno => by
      rw [f_X7_goes_341, if_neg (by omega)]
      by_cases hb : lb ones x = true
      · rw [if_pos ((lbit1 ones (by omega)).mpr hb), hrow, bind_s]
        by_cases hr : σC.1 8 (xst τ x) = 1
        · exact absurd ⟨hb, hr⟩ hno
        · rw [b01_f hr, if_pos rfl, ck_pos (by omega), cc]
      · rw [if_neg (fun z => hb ((lbit1 ones (by omega)).mp z)), ck_pos (by omega), cc]
    by_cases h0 : lShr bc x = 0
    · have hno : ¬ (lb ones x = true ∧ σC.1 8 (xst τ x) = 1) := fun z => by
        have := (hbc x).mpr ⟨z.1, by omega, z.2⟩
        rw [(lrest0 bc (by omega)).mp h0 x (by omega)] at this; cases this
      obtain ⟨σC', τ', r1, r2, r3, r4⟩ := ih (g + 1) (x + 1) σC τ h hN hth hbc (by omega) (by omega)
      rw [eM hno]
      have ex : f_X0_layInAll_3 o (g + 1 + 1) bc th x σC = f_X0_layInAll_3 o (g + 1) bc th ((x + 1 : Nat) : Int) σC := by
        rw [f_X0_layInAll_3, if_neg (by omega), if_pos h0, f_X0_layInAll_3]
        by_cases hxe : σC.1 (o + 9) 3 ≤ ((x + 1 : Nat) : Int)
        · rw [if_pos hxe]
        · rw [if_neg hxe, if_pos (lrest_next (by omega) h0)]
      rw [ex]
      refine ⟨σC', τ', r1, r2, r3, fun z y hy q1 q2 => ?_⟩
      by_cases e : y = x
      · subst e; exact absurd ⟨q1, q2⟩ hno
      · exact r4 z y (by omega) q1 q2
    · by_cases hb : lb ones x = true ∧ σC.1 8 (xst τ x) = 1
      · have hbb := (hbc x).mpr ⟨hb.1, by omega, hb.2⟩
        obtain ⟨⟨y1, y2⟩, x2, x3, x4, x5⟩ := h.2.2.2.1 x (by omega)
        have hP := h.1
        have h12 := hP.1.2.2.1
        have h10 := hP.1.1
        have hxs : ((xst τ x : Nat) : Int) < σC.1 1 2 := by unfold xst; omega
        obtain ⟨o1, -, o3, -⟩ := PR_okS hP hxs
        obtain ⟨⟨-, -, -, -, r5, -⟩, -⟩ := hP.2.2.2.2.2.1 _ hxs
        have hxe : ((xst τ x : Nat) : Int) = τ.1 17 x := by unfold xst; omega
        have hcl : ((Int.toNat (σC.1 10 (xst τ x)) : Nat) : Int) = σC.1 10 (xst τ x) := by omega
        have hbel := g_below h (bits := th) (fun i hi => by have := hth i hi; omega) (c := Int.toNat (σC.1 10 (xst τ x))) (by omega)
        rw [hcl] at hbel
        have hnbl : ∀ i, lb (σC.2 (o + 4) (Int.toNat (σC.1 10 (xst τ x)))) i = true ↔ (i : Int) < τ.1 0 29 ∧ blw σC (mcl σC (xst τ i)) (Int.toNat (σC.1 10 (xst τ x))) = true := fun i => h.2.2.2.2.2.2.2.1.1 _ i (by omega)
        obtain ⟨σ1, τ1, q1, q2, q3, q4⟩ := lies_sim ho h (show (x : Int) < τ.1 0 29 by omega) (show 4 < 5 by omega) (x := th &&& σC.2 (o + 4) (Int.toNat (σC.1 10 (xst τ x)))) (fun i hi => by rw [lb_and, Bool.and_eq_true] at hi; have := hth i hi.1; omega)
        have xse : ∀ i, xst τ1 i = xst τ i := fun i => by unfold xst; rw [q3.2.2.1 17 i (by omega)]
        have p8 : ∀ i, σ1.1 8 i = σC.1 8 i := fun i => q3.2.2.2.1 8 i (by omega)
        have p10 : ∀ i, σ1.1 10 i = σC.1 10 i := fun i => q3.2.2.2.1 10 i (by omega)
        have p2 : ∀ i, σ1.1 2 i = σC.1 2 i := fun i => q3.2.2.2.1 2 i (by omega)
        have mce : ∀ i, mcl σ1 i = mcl σC i := fun i => by unfold mcl; rw [p8, p10]
        have bwe : ∀ a b, blw σ1 a b = blw σC a b := fun a b => by unfold blw; rw [p2]
        have e29 := q3.2.2.1 0 29 (by decide)
        obtain ⟨σC', τ', r1, r2, r3, r4⟩ := ih (g + 1) (x + 1) σ1 τ1 q3.1 (by omega) hth (fun i => by rw [xse, p8]; exact hbc i) (by omega) (by omega)
        rw [show ((4 : Nat) : Int) = 4 from rfl] at q1 q2
        refine ⟨σC', τ', ?_, ?_, q3.tr r3, fun z y hy w1 w2 i hi w3 => ?_⟩
        · rw [f_X0_layInAll_3, if_neg (by omega), if_neg h0, if_neg (fun z => by rw [(lbit0 bc (by omega)).mp z] at hbb; cases hbb), ck_pos (by omega), Int.toNat_natCast, y1, ck_pos (by omega)]
          show ck (0 ≤ σC.1 10 (xst τ x) ∧ σC.1 10 (xst τ x) < ((10 : Nat) : Int)) ((f_X0_addInside o x 4 (th &&& σC.2 (o + 4) (Int.toNat (σC.1 10 (xst τ x)))) σC).bind _) = _
          rw [ck_pos (by omega), q1, bind_s, ck_pos (by omega), cc, r1]
        · rw [f_X7_goes_341, if_neg (by omega), if_pos ((lbit1 ones (by omega)).mpr hb.1), hrow, bind_s, b01_t hb.2, if_neg (by decide), ck_pos (by omega), Int.toNat_natCast, ck_pos (by omega)]
          show (f_X7_below th (τ.1 10 (xst τ x)) τ).bind _ = _
          rw [r5, hbel, bind_s, q2, bind_s, ck_pos (by omega), cc, r2]
        · obtain ⟨z1, z2⟩ := r3.2.1.same z
          by_cases e : y = x
          · subst e
            refine HdM_sub q4 z1 i ?_
            rw [lb_and, hi, Bool.true_and]
            exact (hnbl i).mpr ⟨by have := hth i hi; omega, w3⟩
          · have := r4 z y (by omega) w1 (by rw [xse, p8]; exact w2) i hi (by rw [xse, xse, p10, mce, bwe]; exact w3)
            rw [(q3.2.1.same z1).2.2.2.2.1 _ (by omega)] at this
            exact this
      · have hbb : ¬ lb bc x = true := fun z => hb ⟨((hbc x).mp z).1, ((hbc x).mp z).2.2⟩
        obtain ⟨σC', τ', r1, r2, r3, r4⟩ := ih (g + 1) (x + 1) σC τ h hN hth hbc (by omega) (by omega)
        rw [eM hb]
        refine ⟨σC', τ', ?_, r2, r3, fun z y hy q1 q2 => ?_⟩
        · rw [f_X0_layInAll_3, if_neg (by omega), if_neg h0, if_pos ((lbit0 bc (by omega)).mpr (by simpa using hbb)), ck_pos (by omega), cc, r1]
        · by_cases e : y = x
          · subst e; exact absurd ⟨q1, q2⟩ hb
          · exact r4 z y (by omega) q1 q2
