/-! GUARDS -/
abbrev cov (σC : Mm) (g : Nat) (at' : Int) : Prop := σC.1 8 g = 16 ∧ σC.1 14 g < at' ∧ at' ≤ σC.1 14 g + σC.1 10 g
theorem PR_place {σC τ : Mm} (hP : PR σC τ) {s : Nat} (hs : (s : Int) < σC.1 1 2) : 0 ≤ σC.1 14 s ∧ σC.1 14 s < 90 := by
  obtain ⟨-, q1, q2, -⟩ := hP.2.2.2.2.2.1 s hs
  have h1 := hP.1.2.1
  have h2 := hP.1.2.2.1
  obtain ⟨q3, -⟩ := hP.2.2.2.2.1 (Int.toNat (σC.1 13 s)) (by omega)
  omega
theorem e_covers {σC τ : Mm} (hP : PR σC τ) {g : Nat} (hg : (g : Int) < σC.1 1 2) (at' : Int) : f_X3_covers g at' σC = some (b01 (cov σC g at')) := by
  have h12 := hP.1.2.2.1
  have hpl := PR_place hP hg
  obtain ⟨-, -, -, -, -, -, -, -, -, -, o11⟩ := PR_okS hP hg
  unfold f_X3_covers cov
  rw [ck_pos (by omega), Int.toNat_natCast]
  by_cases h1 : σC.1 8 g = 16
  · rw [if_pos h1, ck_pos (by omega)]
    by_cases h2 : at' ≤ σC.1 14 g
    · rw [if_pos h2, b01_f (by omega)]
    · rw [if_neg h2, ck_pos (by omega), ck_pos (by omega), ck_pos (by omega)]
      by_cases h3 : σC.1 14 g + σC.1 10 g < at'
      · rw [if_pos h3, b01_f (by omega)]
      · rw [if_neg h3, b01_t (by omega)]
  · rw [if_neg h1, b01_f (fun z => h1 z.1)]
theorem g_covers {σC τ : Mm} (hP : PR σC τ) {g : Nat} (hg : (g : Int) < σC.1 1 2) (at' : Int) : f_X7_covers g at' τ = some (b01 (cov σC g at')) := by
  have h12 := hP.1.2.2.1
  have hpl := PR_place hP hg
  obtain ⟨-, -, -, -, -, -, -, -, -, -, o11⟩ := PR_okS hP hg
  obtain ⟨⟨-, r2, r3, -, r5, -⟩, -⟩ := hP.2.2.2.2.2.1 g hg
  unfold f_X7_covers cov
  rw [ck_pos (by omega), Int.toNat_natCast, r2, r3, r5]
  by_cases h1 : σC.1 8 g = 16
  · rw [if_pos h1, ck_pos (by omega)]
    by_cases h2 : at' ≤ σC.1 14 g
    · rw [if_pos h2, b01_f (by omega)]
    · rw [if_neg h2, ck_pos (by omega), ck_pos (by omega), ck_pos (by omega)]
      by_cases h3 : σC.1 14 g + σC.1 10 g < at'
      · rw [if_pos h3, b01_f (by omega)]
      · rw [if_neg h3, b01_t (by omega)]
  · rw [if_neg h1, b01_f (fun z => h1 z.1)]
/-- a line of a METHOD -/
def ln (σC : Mm) (m p : Nat) : Nat := Int.toNat (σC.1 7 (m * 90 + p))
theorem PR_ln {σC τ : Mm} (hP : PR σC τ) {m p : Nat} (hm : (m : Int) < σC.1 1 1) (hp : (p : Int) < σC.1 6 m) : ((ln σC m p : Nat) : Int) < σC.1 1 2 ∧ σC.1 7 (m * 90 + p) = (ln σC m p : Nat) ∧ τ.1 5 (m * 90 + p) = (ln σC m p : Nat) ∧ σC.1 13 (ln σC m p) = m ∧ σC.1 14 (ln σC m p) = p ∧ p < 90 ∧ τ.1 4 m = σC.1 6 m := by
  have h1 := hP.1.2.1
  have h2 := hP.1.2.2.1
  obtain ⟨q1, -, q3⟩ := hP.2.2.2.2.1 m (by omega)
  obtain ⟨q4, q5⟩ := q3 hm
  obtain ⟨q6, q7, q8, q9⟩ := q5 p hp
  have e : ((ln σC m p : Nat) : Int) = σC.1 7 (m * 90 + p) := by unfold ln; omega
  exact ⟨by omega, e.symm, by omega, q8, q9, by omega, q4⟩
theorem e_stepAt {σC τ : Mm} (hP : PR σC τ) {m p : Nat} (hm : (m : Int) < σC.1 1 1) (hp : (p : Int) < σC.1 6 m) : f_X3_stepAt m p σC = some ((ln σC m p : Nat) : Int) := by
  have h1 := hP.1.2.1
  obtain ⟨-, q2, -, -, -, q6, -⟩ := PR_ln hP hm hp
  unfold f_X3_stepAt
  rw [if_neg (by omega), ck_pos (by omega), Int.toNat_natCast, if_neg (by omega), ck_pos (by omega), show Int.toNat ((m : Int) * 90 + p) = m * 90 + p by omega, q2]
/-- the GUARD of a METHOD that takes what is raised at a place, of the places below p -/
def gOf (σC : Mm) (m : Nat) (at' : Int) (c : Nat) : Nat → Int
  | 0 => -1
  | p + 1 => if cov σC (ln σC m p) at' ∧ blw σC c (Int.toNat (σC.1 11 (ln σC m p))) = true then (ln σC m p : Nat) else gOf σC m at' c p
/-- the set that must hold what is raised: a GUARD's, or that of what is RAISED -/
def gVar (σC : Mm) (m : Nat) (at' : Int) (c p : Nat) : Nat := if gOf σC m at' c p < 0 then 7 else Int.toNat (σC.1 9 (Int.toNat (gOf σC m at' c p)))
theorem gOf_frame {σC σ' : Mm} (h : ∀ k, 1 ≤ k → k ≤ 14 → σ'.1 k = σC.1 k) (m : Nat) (at' : Int) (c : Nat) : ∀ p, gOf σ' m at' c p = gOf σC m at' c p
  | 0 => rfl
  | p + 1 => by
    have ih := gOf_frame h m at' c p
    have h7 := h 7 (by omega) (by omega); have h8 := h 8 (by omega) (by omega); have h14 := h 14 (by omega) (by omega); have h10 := h 10 (by omega) (by omega); have h11 := h 11 (by omega) (by omega); have h2 := h 2 (by omega) (by omega)
    have el : ln σ' m p = ln σC m p := by unfold ln; rw [h7]
    show (if cov σ' (ln σ' m p) at' ∧ blw σ' c (Int.toNat (σ'.1 11 (ln σ' m p))) = true then ((ln σ' m p : Nat) : Int) else gOf σ' m at' c p) = (if cov σC (ln σC m p) at' ∧ blw σC c (Int.toNat (σC.1 11 (ln σC m p))) = true then ((ln σC m p : Nat) : Int) else gOf σC m at' c p)
    have ec : cov σ' (ln σC m p) at' ↔ cov σC (ln σC m p) at' := by unfold cov; rw [h8, h14, h10]
    have eb : blw σ' c (Int.toNat (σ'.1 11 (ln σC m p))) = blw σC c (Int.toNat (σC.1 11 (ln σC m p))) := by unfold blw; rw [h2, h11]
    rw [ih, el, eb]
    simp only [ec]
theorem gVar_frame {σC σ' : Mm} (h : ∀ k, 1 ≤ k → k ≤ 14 → σ'.1 k = σC.1 k) (m : Nat) (at' : Int) (c p : Nat) : gVar σ' m at' c p = gVar σC m at' c p := by
  unfold gVar
  rw [gOf_frame h, h 9 (by omega) (by omega)]
theorem gOf_lt {σC τ : Mm} (hP : PR σC τ) {m : Nat} (hm : (m : Int) < σC.1 1 1) {at' : Int} {c : Nat} : ∀ p : Nat, (p : Int) ≤ σC.1 6 m → -1 ≤ gOf σC m at' c p ∧ gOf σC m at' c p < σC.1 1 2 ∧ (0 ≤ gOf σC m at' c p → cov σC (Int.toNat (gOf σC m at' c p)) at')
  | 0, _ => by
    have := hP.1.2.2.1
    show (-1 : Int) ≤ -1 ∧ (-1 : Int) < _ ∧ ((0 : Int) ≤ -1 → _)
    exact ⟨by omega, by omega, fun z => by omega⟩
  | p + 1, hp => by
    have ih := gOf_lt hP hm (at' := at') (c := c) p (by omega)
    obtain ⟨q1, -⟩ := PR_ln hP hm (p := p) (by omega)
    rw [gOf]
    split
    · next hz => exact ⟨by omega, q1, fun _ => by rw [Int.toNat_natCast]; exact hz.1⟩
    · exact ih
theorem gVar_lt {σC τ : Mm} (hP : PR σC τ) {m : Nat} (hm : (m : Int) < σC.1 1 1) {at' : Int} {c p : Nat} (hp : (p : Int) ≤ σC.1 6 m) : gVar σC m at' c p < 8 := by
  obtain ⟨g1, g2, g3⟩ := gOf_lt hP hm (at' := at') (c := c) p hp
  unfold gVar
  split
  · omega
  · next hz =>
    obtain ⟨-, o2, -⟩ := PR_okS hP (s := Int.toNat (gOf σC m at' c p)) (by omega)
    have := (g3 (by omega)).1
    omega
theorem Gr_prog {o : Nat} (ho : o = 15 ∨ o = 29) {σC τ σC' τ' : Mm} (h : Gr o σC τ σC' τ') : ∀ k, 1 ≤ k → k ≤ 14 → σC'.1 k = σC.1 k := fun k _ h2 => by
  have h15 : 15 ≤ o := by rcases ho with rfl | rfl <;> decide
  exact (h.2.2.2.2.1 k (Or.inl (by omega))).1
theorem raise_aux {o : Nat} (ho : o = 15 ∨ o = 29) {n s m : Nat} {at' : Int} : ∀ (p f : Nat) (left : Int64) (σC τ : Mm), RF o σC τ → (n : Int) < τ.1 0 24 → (s : Int) < σC.1 1 2 → σC.1 14 s = at' → τ.1 13 n = m → (p : Int) ≤ σC.1 6 m → (∀ i, lb left i = true → (i : Int) < τ.1 0 29) → p < f → ∃ σC' τ', f_X0_raiseAt_20 o f n at' left ((p : Int) - 1) σC = some σC' ∧ f_X7_raised_21 f n s left m ((p : Int) - 1) τ = some τ' ∧ Gr o σC τ σC' τ' ∧ (τ'.1 0 22 = 0 → ∀ i, lb left i = true → lb (τ.2 16 (8 * n + gVar σC m at' (mcl σC (xst τ i)) p)) i = true) := by
  have h15 : 15 ≤ o := by rcases ho with rfl | rfl <;> decide
  intro p
  induction p with
  | zero =>
    intro f left σC τ h hn hs hat hm hp hl hf
    obtain ⟨f, rfl⟩ : ∃ g, f = g + 1 := ⟨f - 1, by omega⟩
    obtain ⟨σ1, τ1, q1, q2, q3, q4⟩ := hold_sim ho h hn (show 7 < 8 by omega) (x := left) hl
    rw [show ((7 : Nat) : Int) = 7 from rfl] at q1 q2
    rw [f_X0_raiseAt_20, f_X7_raised_21, if_pos (show ((0 : Nat) : Int) - 1 < 0 by omega), if_pos (show ((0 : Nat) : Int) - 1 < 0 by omega), q1, q2, bind_s, bind_s]
    refine ⟨σ1, τ1, rfl, rfl, q3, fun z i hi => ?_⟩
    show lb (τ.2 16 (8 * n + 7)) i = true
    exact HdM_sub q4 z i hi
  | succ p ih =>
    intro f left σC τ h hn hs hat hm hp hl hf
    obtain ⟨f, rfl⟩ : ∃ g, f = g + 1 := ⟨f - 1, by omega⟩
    obtain ⟨g', rfl⟩ : ∃ g, f = g + 1 := ⟨f - 1, by omega⟩
    obtain ⟨⟨t1, t2, -⟩, s7, s8, s9, s10, s11⟩ := h.2.1
    have hP := h.1
    have h12 := hP.1.2.2.1
    have h11 := hP.1.2.1
    have h10 := hP.1.1
    obtain ⟨⟨n1, -⟩, n3, -⟩ := h.2.2.1 n hn
    have hmm : (m : Int) < σC.1 1 1 := by omega
    obtain ⟨l1, l2, l3, l4, l5, l6, l7⟩ := PR_ln hP hmm (p := p) (by omega)
    obtain ⟨⟨-, r2, -, r4, -, r6, -⟩, -⟩ := hP.2.2.2.2.2.1 (ln σC m p) l1
    obtain ⟨⟨-, w2, -⟩, -⟩ := hP.2.2.2.2.2.1 s hs
    have cm : ((p + 1 : Nat) : Int) - 1 = (p : Int) := by omega
    have c2 : (p : Int) + (-1) = (p : Int) - 1 := by omega
    -- the reference's step
    have eM : f_X7_raised_21 (g' + 1 + 1) n s left m ((p + 1 : Nat) - 1 : Int) τ = if cov σC (ln σC m p) at' then (f_X7_below left (σC.1 11 (ln σC m p)) τ).bind (fun r13 => (f_X7_holds n (σC.1 9 (ln σC m p)) r13 τ).bind (fun r17 => f_X7_raised_21 (g' + 1) n s (left &&& (r13 ^^^ (-1))) m ((p : Int) - 1) r17)) else f_X7_raised_21 (g' + 1) n s left m ((p : Int) - 1) τ := by
      rw [cm, f_X7_raised_21, if_neg (by omega), ck_pos (by omega), ck_pos (by omega), Int.toNat_natCast, w2, hat, show Int.toNat (90 * (m : Int) + p) = m * 90 + p by omega, l3, g_covers hP l1, bind_s, c2]
      by_cases hc : cov σC (ln σC m p) at'
      · rw [b01_t hc, if_neg (by omega), if_pos hc, ck_pos (by omega), Int.toNat_natCast, r4, r6]
        simp only [ck_pos (show inR ((p : Int) - 1) by omega), ck_pos (show (0 : Int) ≤ ((ln σC m p : Nat) : Int) ∧ ((ln σC m p : Nat) : Int) < ((90 : Nat) : Int) by omega)]
      · rw [b01_f hc, if_pos rfl, if_neg hc, ck_pos (by omega)]
    have eC : ¬ left = 0 → f_X0_raiseAt_20 o (g' + 1 + 1) n at' left ((p + 1 : Nat) - 1 : Int) σC = if cov σC (ln σC m p) at' then ck ((0 : Int) ≤ (σC.1 11 (ln σC m p)) ∧ (σC.1 11 (ln σC m p)) < ((10 : Nat) : Int)) ((f_X0_addToVar o n (σC.1 9 (ln σC m p)) (left &&& (σC.2 (o + 4) (Int.toNat (σC.1 11 (ln σC m p))))) σC).bind (fun r22 => f_X0_raiseAt_20 o (g' + 1) n at' (left &&& ((left &&& (σC.2 (o + 4) (Int.toNat (σC.1 11 (ln σC m p))))) ^^^ (-1))) ((p : Int) - 1) r22)) else f_X0_raiseAt_20 o (g' + 1) n at' left ((p : Int) - 1) σC := fun hl0 => by
      rw [cm, f_X0_raiseAt_20, if_neg (by omega), if_neg hl0, ck_pos (by omega), Int.toNat_natCast, n1, hm, e_stepAt hP hmm (by omega), bind_s, if_neg (by omega), e_covers hP l1, bind_s, c2]
      by_cases hc : cov σC (ln σC m p) at'
      · rw [b01_t hc, if_neg (by omega), if_pos hc, ck_pos (by omega), Int.toNat_natCast]
        simp only [ck_pos (show inR ((p : Int) - 1) by omega), ck_pos (show (0 : Int) ≤ ((ln σC m p : Nat) : Int) ∧ ((ln σC m p : Nat) : Int) < ((90 : Nat) : Int) by omega)]
      · rw [b01_f hc, if_pos rfl, if_neg hc, ck_pos (by omega)]
    by_cases hc : cov σC (ln σC m p) at'
    · obtain ⟨o1, o2, -, -, -, -, -, o8, -⟩ := PR_okS hP l1
      have hk16 := hc.1
      obtain ⟨va, hva⟩ : ∃ va : Nat, σC.1 9 (ln σC m p) = va := ⟨Int.toNat (σC.1 9 (ln σC m p)), by omega⟩
      obtain ⟨cl, hcl⟩ : ∃ cl : Nat, σC.1 11 (ln σC m p) = cl := ⟨Int.toNat (σC.1 11 (ln σC m p)), by omega⟩
      have hbel := g_below h (bits := left) hl (c := cl) (by omega)
      have hnbl : ∀ i, lb (σC.2 (o + 4) cl) i = true ↔ (i : Int) < τ.1 0 29 ∧ blw σC (mcl σC (xst τ i)) cl = true := fun i => h.2.2.2.2.2.2.2.1.1 _ i (by omega)
      obtain ⟨σ1, τ1, q1, q2, q3, q4⟩ := hold_sim ho h hn (show va < 8 by omega) (x := left &&& σC.2 (o + 4) cl) (fun i hi => by rw [lb_and, Bool.and_eq_true] at hi; exact hl i hi.1)
      have hpr := Gr_prog ho q3
      have e13 := q3.2.2.1 13 n (by omega); have e24 := q3.2.2.1 0 24 (by decide); have e29 := q3.2.2.1 0 29 (by decide)
      have xse : ∀ i, xst τ1 i = xst τ i := fun i => by unfold xst; rw [q3.2.2.1 17 i (by omega)]
      have mce : ∀ i, mcl σ1 i = mcl σC i := fun i => by unfold mcl; rw [hpr 8 (by omega) (by omega), hpr 10 (by omega) (by omega)]
      obtain ⟨σC', τ', k1, k2, k3, k4⟩ := ih (g' + 1) (left &&& ((left &&& σC.2 (o + 4) cl) ^^^ (-1))) σ1 τ1 q3.1 (by omega) (by rw [hpr 1 (by omega) (by omega)]; exact hs) (by rw [hpr 14 (by omega) (by omega)]; exact hat) (by omega) (by rw [hpr 6 (by omega) (by omega)]; omega) (fun i hi => by rw [lb_and, Bool.and_eq_true] at hi; rw [e29]; exact hl i hi.1) (by omega)
      rw [eM, if_pos hc, hcl, hbel, bind_s, hva, q2, bind_s]
      have rC : f_X0_raiseAt_20 o (g' + 1 + 1) n at' left ((p + 1 : Nat) - 1 : Int) σC = some σC' := by
        by_cases hl0 : left = 0
        · rw [f_X0_raiseAt_20, if_neg (by omega), if_pos hl0]
          have z0 : ∀ y : Int64, ((0 : Int64) &&& y) = 0 := fun y => lb_ext (fun i _ => by rw [lb_and, lb_0]; rfl)
          have ad0 : f_X0_addToVar o n va 0 σC = some σC := by
            unfold f_X0_addToVar
            rw [ck_pos (by omega), ck_pos (by omega), if_pos (z0 _)]
          rw [hl0, z0, ad0] at q1
          have hσ : σ1 = σC := (Option.some.inj q1).symm
          rw [hl0, z0, hσ] at k1
          rw [f_X0_raiseAt_20] at k1
          rw [hl0]
          split at k1
          · exact k1
          · exact k1
        · rw [eC hl0, if_pos hc, ck_pos (by omega), hcl, hva, Int.toNat_natCast, q1, bind_s, k1]
      refine ⟨σC', τ', rC, k2, q3.tr k3, fun z i hi => ?_⟩
      obtain ⟨z1, z2⟩ := k3.2.1.same z
      obtain ⟨z3, z4⟩ := q3.2.1.same z1
      by_cases hb : blw σC (mcl σC (xst τ i)) cl = true
      · have hg : gVar σC m at' (mcl σC (xst τ i)) (p + 1) = va := by
          unfold gVar
          have : gOf σC m at' (mcl σC (xst τ i)) (p + 1) = ((ln σC m p : Nat) : Int) := by
            rw [gOf, if_pos ⟨hc, by rw [hcl, Int.toNat_natCast]; exact hb⟩]
          rw [this, if_neg (by omega), Int.toNat_natCast, hva, Int.toNat_natCast]
        rw [hg]
        exact HdM_sub q4 z1 i (by rw [lb_and, hi, Bool.true_and]; exact (hnbl i).mpr ⟨hl i hi, hb⟩)
      · have hg : gVar σC m at' (mcl σC (xst τ i)) (p + 1) = gVar σC m at' (mcl σC (xst τ i)) p := by
          unfold gVar
          have : gOf σC m at' (mcl σC (xst τ i)) (p + 1) = gOf σC m at' (mcl σC (xst τ i)) p := by
            rw [gOf, if_neg (fun w => hb (by have := w.2; rw [hcl, Int.toNat_natCast] at this; exact this))]
          rw [this]
        have hli : i < 64 := by have := hl i hi; omega
        have := k4 z i (by
          rw [lb_and, hi, Bool.true_and, lb_not hli, lb_and, hi, Bool.true_and]
          cases hz : lb (σC.2 (o + 4) cl) i
          · rfl
          · exact absurd ((hnbl i).mp hz).2 hb)
        rw [gVar_frame hpr, mce, xse] at this
        rw [hg]
        have hlt := gVar_lt hP hmm (at' := at') (c := mcl σC (xst τ i)) (p := p) (by omega)
        rw [z4.2.2.1 _ (by omega)] at this
        exact this
    · obtain ⟨σC', τ', k1, k2, k3, k4⟩ := ih (g' + 1) left σC τ h hn hs hat hm (by omega) hl (by omega)
      rw [eM, if_neg hc]
      have rC : f_X0_raiseAt_20 o (g' + 1 + 1) n at' left ((p + 1 : Nat) - 1 : Int) σC = some σC' := by
        by_cases hl0 : left = 0
        · rw [f_X0_raiseAt_20, if_neg (by omega), if_pos hl0]
          rw [f_X0_raiseAt_20, hl0] at k1
          rw [hl0]
          split at k1
          · exact k1
          · exact k1
        · rw [eC hl0, if_neg hc, k1]
      refine ⟨σC', τ', rC, k2, k3, fun z i hi => ?_⟩
      have hg : gVar σC m at' (mcl σC (xst τ i)) (p + 1) = gVar σC m at' (mcl σC (xst τ i)) p := by
        unfold gVar
        have : gOf σC m at' (mcl σC (xst τ i)) (p + 1) = gOf σC m at' (mcl σC (xst τ i)) p := by
          rw [gOf, if_neg (fun w => hc w.1)]
        rw [this]
      rw [hg]
      exact k4 z i hi
