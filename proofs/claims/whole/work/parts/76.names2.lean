theorem NmM_MF {τ τ' : Mm} {x : Nat} {s n : Int} (h : NmM τ τ' x s n) : MF τ τ' := by
  obtain ⟨-, h2, -, h4⟩ := h
  exact ⟨fun k hk => ⟨by funext i; exact h2 k i (by omega), by funext i; exact h4 k i (by omega)⟩, fun j _ _ _ _ _ _ => h2 0 j (by omega)⟩
theorem NmC_CF {o : Nat} {σ σ' : Mm} {x s n : Nat} (h : NmC o σ σ' x s n) : CF o σ σ' := by
  obtain ⟨-, h2, -, -, -, h4⟩ := h
  exact fun k hk => ⟨by funext i; exact h2 k i (by omega), by funext i; exact h4 k i (by omega)⟩
theorem st7_CF {o : Nat} {σ : Mm} {z : Int} : CF o σ (stI σ o 7 z) := fun k hk => ⟨by funext i; rw [stI_1, if_neg (by omega)], rfl⟩
theorem NmM_Up {τ τ' : Mm} {x : Nat} {s n : Int} (hx : τ.1 0 29 = x) (h : NmM τ τ' x s n) : Up τ τ' := by
  have mf := NmM_MF h
  obtain ⟨⟨e29, e22, -⟩, h2, h3, h4⟩ := h
  have e24 := h2 0 24 (by omega)
  refine ⟨⟨mf, ⟨by omega, by omega⟩, fun i hi => ⟨h2 13 i (by omega), h2 14 i (by omega), h2 15 i (by omega)⟩, fun i hi => ⟨h2 17 i (by omega), h2 18 i (by omega)⟩, fun j hj i hi => ?_, fun j hj i hi => ?_, fun j hj i hi => ?_⟩, Or.inr ⟨e22, ?_⟩⟩
  · rw [h4 16 j (by omega)]; exact hi
  · rw [h4 19 j (by omega)]; exact hi
  · rw [h4 20 j (by omega)]; exact hi
  · have a1 : sumN (cI τ) 300 ≤ sumN (cI τ') 300 := sumN_le 300 (fun i _ => by
      unfold cI
      by_cases hi : (i : Int) < 5 * τ.1 0 29
      · rw [if_pos hi, if_pos (by omega), h4 19 i (by omega)]; exact Nat.le_refl _
      · rw [if_neg hi]; exact Nat.zero_le _)
    have a2 : sumN (cH τ') 640 = sumN (cH τ) 640 := sumN_eq 640 (fun i _ => by
      unfold cH
      rw [e24, h4 16 i (by omega)])
    have a3 : sumN (cG τ') 4 = sumN (cG τ) 4 := sumN_eq 4 (fun i _ => by
      unfold cG
      rw [h4 20 i (by omega)])
    unfold cnt
    rw [a2, a3, e24, e29, hx]
    omega
theorem RF_nm {o : Nat} (ho : o = 15 ∨ o = 29) {σC σC' τ τ' : Mm} (h : RF o σC τ) {x s n : Nat} (hx : τ.1 0 29 = x) (h60 : x < 60) (hn : (n : Int) < τ.1 0 24) (hs : (s : Int) < σC.1 1 2) (hk : σC.1 8 s ≤ 1) (how : σC.1 13 s = τ.1 13 n) (hno : ∀ i : Nat, (i : Int) < τ.1 0 29 → ¬ (τ.1 17 i = s ∧ τ.1 18 i = n)) (hC : NmC o σC σC' x s n) (hM : NmM τ τ' x s n) : RF o (stI σC' o 7 1) τ' := by
  have cf := (NmC_CF hC).tr (st7_CF (z := 1))
  have mf := NmM_MF hM
  obtain ⟨hP, ⟨⟨s1, s2, s3, s4, s5, s6⟩, s7, s8, s9, s10, s11⟩, hnn, hxx, hh, hi, hg, hb, hu⟩ := h
  obtain ⟨⟨c1, c2, c3⟩, c4, c5, c6, c7, c8⟩ := hC
  obtain ⟨⟨m1, m2, m3, m4⟩, m6, m7, m8⟩ := hM
  have h15 : 15 ≤ o := by rcases ho with rfl | rfl <;> decide
  have e24 := m6 0 24 (by omega); have e18 := m6 0 18 (by omega); have e19 := m6 0 19 (by omega); have e21 := m6 0 21 (by omega)
  have e13 : τ'.1 13 = τ.1 13 := by funext i; exact m6 13 i (by omega)
  have e14 : τ'.1 14 = τ.1 14 := by funext i; exact m6 14 i (by omega)
  have e15 : τ'.1 15 = τ.1 15 := by funext i; exact m6 15 i (by omega)
  have st : ∀ k i, ¬ (k = o ∧ i = 7) → (stI σC' o 7 1).1 k i = σC'.1 k i := fun k i hk => by rw [stI_1, if_neg hk]
  have k10 : (stI σC' o 7 1).1 (o + 10) = σC.1 (o + 10) := by funext i; rw [st _ _ (by omega)]; exact c4 _ i (by omega)
  have k11 : (stI σC' o 7 1).1 (o + 11) = σC.1 (o + 11) := by funext i; rw [st _ _ (by omega)]; exact c4 _ i (by omega)
  have p1 := (cf 1 (Or.inl (Nat.lt_of_lt_of_le (by decide) h15))).1; have p2 := (cf 2 (Or.inl (Nat.lt_of_lt_of_le (by decide) h15))).1; have p8 := (cf 8 (Or.inl (Nat.lt_of_lt_of_le (by decide) h15))).1; have p10 := (cf 10 (Or.inl (Nat.lt_of_lt_of_le (by decide) h15))).1; have p13 := (cf 13 (Or.inl (Nat.lt_of_lt_of_le (by decide) h15))).1
  have l1 : (stI σC' o 7 1).2 (o + 1) = σC.2 (o + 1) := by funext i; rw [stI_2]; exact c8 _ i (by omega)
  have l3 : (stI σC' o 7 1).2 (o + 3) = σC.2 (o + 3) := by funext i; rw [stI_2]; exact c8 _ i (by omega)
  have q16 : τ'.2 16 = τ.2 16 := by funext i; exact m8 _ i (by omega)
  have q20 : τ'.2 20 = τ.2 20 := by funext i; exact m8 _ i (by omega)
  have xse : ∀ i, i ≠ x → xst τ' i = xst τ i := fun i hi => by unfold xst; rw [m6 17 i (by omega)]
  have xsx : xst τ' x = s := by unfold xst; rw [m3]; omega
  have mce : ∀ i, mcl (stI σC' o 7 1) i = mcl σC i := fun i => by unfold mcl; rw [p8, p10]
  have bwe : ∀ a b, blw (stI σC' o 7 1) a b = blw σC a b := fun a b => by unfold blw; rw [p2]
  have bit : ∀ i, lb (lShl 1 (x : Int)) i = true ↔ i = x := fun i => by
    by_cases h6 : i < 64
    · rw [lb_shl1 (by omega) h6]; simp
    · rw [lb_big (by omega)]
      constructor
      · intro z; cases z
      · intro z; omega
  refine ⟨PR_frame ho hP cf mf, ?_, ?_, ?_, ?_, ?_, ?_, ?_, ?_⟩
  · unfold RFs
    have z7 : (stI σC' o 7 1).1 o 7 = 1 := by rw [stI_1, if_pos ⟨rfl, rfl⟩]
    rw [z7, st _ _ (by omega), st _ _ (by omega), st _ _ (by omega), st _ _ (by omega), st _ _ (by omega), c1, c4 (o + 9) 0 (by omega), c4 (o + 9) 1 (by omega), c4 (o + 9) 2 (by omega), c4 o 8 (by omega), m1, m2, e24, e18, e19, e21]
    exact ⟨⟨s1, rfl, s3, s4, rfl, s6⟩, s7, by omega, s9, s10, Or.inr rfl⟩
  · unfold RFn
    rw [k10, k11, e24, e13, e14, e15, e19, p1]; exact hnn
  · intro i hi'
    by_cases hix : i = x
    · subst hix
      rw [st _ _ (by omega), st _ _ (by omega), c2, c3, m3, m4, p1, p8, p13, xsx, e13, e24, Int.toNat_natCast]
      exact ⟨⟨rfl, rfl⟩, by omega, hk, by omega, how⟩
    · rw [xse i hix, st _ _ (by omega), st _ _ (by omega), c4 (o + 12) i (by omega), c4 (o + 13) i (by omega), m6 17 i (by omega), m6 18 i (by omega), p1, p8, p13, e13, e24]
      exact hxx i (by omega)
  · intro i v hi' hv
    rw [e24] at hi'
    rw [l1, q16, m1]
    obtain ⟨w1, w2⟩ := hh i v hi' hv
    exact ⟨w1, fun j hj => by have := w2 j hj; omega⟩
  · intro i v hi' hv
    rw [m1]
    by_cases hix : i = x
    · subst hix
      rw [stI_2, c5 v hv, m7 v hv]
      exact ⟨rfl, fun j hj => by rw [lb_0] at hj; cases hj⟩
    · rw [stI_2, c8 _ _ (by omega), m8 _ _ (by omega)]
      obtain ⟨w1, w2⟩ := hi i v (by omega) hv
      exact ⟨w1, fun j hj => by have := w2 j hj; omega⟩
  · intro g hg'
    rw [l3, q20, m1]
    obtain ⟨w1, w2⟩ := hg g hg'
    exact ⟨w1, fun j hj => by have := w2 j hj; omega⟩
  · obtain ⟨b1, b2⟩ := hb
    constructor
    · intro c i hc
      rw [p1] at hc
      rw [stI_2, c7 c hc, bwe, mce, m1]
      by_cases hix : i = x
      · subst hix
        rw [xsx]
        have old : lb (σC.2 (o + 4) c) i = false := by
          cases hl : lb (σC.2 (o + 4) c) i
          · rfl
          · have := ((b1 c i hc).mp hl).1; omega
        by_cases hbw : blw σC (mcl σC s) c = true
        · rw [if_pos hbw, lb_or, (bit i).mpr rfl]
          simp only [Bool.or_true, true_iff]
          exact ⟨by omega, hbw⟩
        · rw [if_neg hbw, old]
          simp only [Bool.false_eq_true, false_iff]
          exact fun z => hbw z.2
      · rw [xse i hix]
        have nb : lb (lShl 1 (x : Int)) i = false := by
          cases hl : lb (lShl 1 (x : Int)) i
          · rfl
          · exact absurd ((bit i).mp hl) hix
        have e : lb (if blw σC (mcl σC s) c = true then σC.2 (o + 4) c ||| lShl 1 (x : Int) else σC.2 (o + 4) c) i = lb (σC.2 (o + 4) c) i := by
          split
          · rw [lb_or, nb]; simp
          · rfl
        rw [e, b1 c i hc]
        constructor
        · intro z; exact ⟨by omega, z.2⟩
        · intro z; exact ⟨by omega, z.2⟩
    · intro i
      rw [stI_2, c6, m1, p8]
      by_cases hix : i = x
      · subst hix
        rw [xsx]
        have old : lb (σC.2 o 6) i = false := by
          cases hl : lb (σC.2 o 6) i
          · rfl
          · have := ((b2 i).mp hl).1; omega
        by_cases h1 : σC.1 8 s = 1
        · rw [if_pos h1, lb_or, (bit i).mpr rfl]
          simp only [Bool.or_true, true_iff]
          exact ⟨by omega, h1⟩
        · rw [if_neg h1, old]
          simp only [Bool.false_eq_true, false_iff]
          exact fun z => h1 z.2
      · rw [xse i hix]
        have nb : lb (lShl 1 (x : Int)) i = false := by
          cases hl : lb (lShl 1 (x : Int)) i
          · rfl
          · exact absurd ((bit i).mp hl) hix
        have e : lb (if σC.1 8 s = 1 then σC.2 o 6 ||| lShl 1 (x : Int) else σC.2 o 6) i = lb (σC.2 o 6) i := by
          split
          · rw [lb_or, nb]; simp
          · rfl
        rw [e, b2 i]
        constructor
        · intro z; exact ⟨by omega, z.2⟩
        · intro z; exact ⟨by omega, z.2⟩
  · refine ⟨?_, fun i j hi' hj' e1 e2 => ?_⟩
    · rw [e24, e13, e14, e15]; exact hu.1
    · by_cases hin : i = x <;> by_cases hjn : j = x
      · omega
      · subst hin
        rw [m3, m6 17 j (by omega)] at e1
        rw [m4, m6 18 j (by omega)] at e2
        exact absurd ⟨e1.symm, e2.symm⟩ (hno j (by omega))
      · subst hjn
        rw [m3, m6 17 i (by omega)] at e1
        rw [m4, m6 18 i (by omega)] at e2
        exact absurd ⟨e1, e2⟩ (hno i (by omega))
      · rw [m6 17 i (by omega), m6 17 j (by omega)] at e1
        rw [m6 18 i (by omega), m6 18 j (by omega)] at e2
        exact hu.2 i j (by omega) (by omega) e1 e2
/-! how a step ends: it goes on, or there are too many -/
def Ok (o : Nat) (σC τ σC' τ' : Mm) : Prop := RF o σC' τ' ∧ CF o σC σC' ∧ Up τ τ' ∧ σC'.1 (o + 9) 4 = σC.1 (o + 9) 4 ∧ τ'.1 0 23 = τ.1 0 23
def Ov (o : Nat) (σC τ σC' τ' : Mm) : Prop := τ.1 0 19 ≠ 0 ∧ (τ'.1 0 23 = 1 ∧ (∃ σb, RF o σb τ') ∧ Mono τ τ') ∧ σC'.1 (o + 9) 4 = 1 ∧ CF o σC σC' ∧ ∃ τh, RF o σC' τh ∧ Mono τ τh
theorem Gr.ok {o : Nat} {σC τ σC' τ' : Mm} (h : Gr o σC τ σC' τ') : Ok o σC τ σC' τ' := ⟨h.1, h.2.2.2.2.1, h.2.1, h.2.2.2.1 _ _ (by omega), h.2.2.1 _ _ (by decide)⟩
theorem Ok.rf {o : Nat} {σC τ : Mm} (h : RF o σC τ) : Ok o σC τ σC τ := ⟨h, CF.rf, Up.rf, rfl, rfl⟩
theorem Ok.tr {o : Nat} {a b c d e f : Mm} (h1 : Ok o a b c d) (h2 : Ok o c d e f) : Ok o a b e f := ⟨h2.1, h1.2.1.tr h2.2.1, h1.2.2.1.tr h2.2.2.1, h2.2.2.2.1.trans h1.2.2.2.1, h2.2.2.2.2.trans h1.2.2.2.2⟩
theorem Ok.ov {o : Nat} {a b c d e f : Mm} (h1 : Ok o a b c d) (h2 : Ov o c d e f) : Ov o a b e f := by
  obtain ⟨q1, ⟨q2, q3, q4⟩, q5, q6, τh, q7, q8⟩ := h2
  have e19 : d.1 0 19 = b.1 0 19 := h1.2.2.1.1.1.2 19 (by decide) (by decide) (by decide) (by decide) (by decide) (by decide)
  exact ⟨by rw [← e19]; exact q1, ⟨q2, q3, h1.2.2.1.1.tr q4⟩, q5, h1.2.1.tr q6, τh, q7, h1.2.2.1.1.tr q8⟩
/-- the cells of 'too many' are no part of the relation -/
theorem RF_over {o : Nat} (ho : o = 15 ∨ o = 29) {σC τ : Mm} (h : RF o σC τ) (z : Int) : RF o σC (stI τ 0 23 z) := by
  obtain ⟨hP, hs, hn, hxx, hh, hi, hg, hb, hu⟩ := h
  have e : ∀ k j, ¬ (k = 0 ∧ j = 23) → (stI τ 0 23 z).1 k j = τ.1 k j := fun k j hk => by rw [stI_1, if_neg hk]
  have e24 := e 0 24 (by decide); have e29 := e 0 29 (by decide); have e22 := e 0 22 (by decide); have e18 := e 0 18 (by decide); have e19 := e 0 19 (by decide); have e21 := e 0 21 (by decide)
  have e13 : (stI τ 0 23 z).1 13 = τ.1 13 := by funext i; exact e 13 i (by omega)
  have e14 : (stI τ 0 23 z).1 14 = τ.1 14 := by funext i; exact e 14 i (by omega)
  have e15 : (stI τ 0 23 z).1 15 = τ.1 15 := by funext i; exact e 15 i (by omega)
  have e17 : (stI τ 0 23 z).1 17 = τ.1 17 := by funext i; exact e 17 i (by omega)
  have e18' : (stI τ 0 23 z).1 18 = τ.1 18 := by funext i; exact e 18 i (by omega)
  have xse : ∀ i, xst (stI τ 0 23 z) i = xst τ i := fun i => by unfold xst; rw [e17]
  have mf : MF τ (stI τ 0 23 z) := ⟨fun k hk => ⟨by funext i; exact e k i (by omega), rfl⟩, fun j _ h2 _ _ _ _ => e 0 j (by omega)⟩
  refine ⟨PR_frame ho hP CF.rf mf, ?_, ?_, ?_, ?_, ?_, ?_, ?_, ?_⟩
  · unfold RFs; rw [e24, e29, e22, e18, e19, e21]; exact hs
  · unfold RFn; rw [e24, e13, e14, e15, e19]; exact hn
  · unfold RFx; simp only [xse]; rw [e29, e24, e17, e18', e13]; exact hxx
  · unfold RFh; rw [e24, e29]; exact hh
  · unfold RFi; rw [e29]; exact hi
  · unfold RFg; rw [e29]; exact hg
  · unfold RFb; simp only [xse]; rw [e29]; exact hb
  · unfold RFu; rw [e24, e29, e13, e14, e15, e17, e18']; exact hu
theorem RF_many {o : Nat} (ho : o = 15 ∨ o = 29) {σC τ : Mm} (h : RF o σC τ) (z : Int) : RF o (stI σC (o + 9) 4 z) τ := by
  obtain ⟨hP, hs, hn, hxx, hh, hi, hg, hb, hu⟩ := h
  have h15 : 15 ≤ o := by rcases ho with rfl | rfl <;> decide
  have e : ∀ k j, ¬ (k = o + 9 ∧ j = 4) → (stI σC (o + 9) 4 z).1 k j = σC.1 k j := fun k j hk => by rw [stI_1, if_neg hk]
  have cf : CF o σC (stI σC (o + 9) 4 z) := fun k hk => ⟨by funext i; exact e k i (by omega), rfl⟩
  have p1 := (cf 1 (Or.inl (Nat.lt_of_lt_of_le (by decide) h15))).1; have p2 := (cf 2 (Or.inl (Nat.lt_of_lt_of_le (by decide) h15))).1; have p8 := (cf 8 (Or.inl (Nat.lt_of_lt_of_le (by decide) h15))).1; have p10 := (cf 10 (Or.inl (Nat.lt_of_lt_of_le (by decide) h15))).1; have p13 := (cf 13 (Or.inl (Nat.lt_of_lt_of_le (by decide) h15))).1
  have mce : ∀ i, mcl (stI σC (o + 9) 4 z) i = mcl σC i := fun i => by unfold mcl; rw [p8, p10]
  have bwe : ∀ a b, blw (stI σC (o + 9) 4 z) a b = blw σC a b := fun a b => by unfold blw; rw [p2]
  have k10 : (stI σC (o + 9) 4 z).1 (o + 10) = σC.1 (o + 10) := by funext i; exact e _ i (by omega)
  have k11 : (stI σC (o + 9) 4 z).1 (o + 11) = σC.1 (o + 11) := by funext i; exact e _ i (by omega)
  have k12 : (stI σC (o + 9) 4 z).1 (o + 12) = σC.1 (o + 12) := by funext i; exact e _ i (by omega)
  have k13 : (stI σC (o + 9) 4 z).1 (o + 13) = σC.1 (o + 13) := by funext i; exact e _ i (by omega)
  refine ⟨PR_frame ho hP cf MF.rf, ?_, ?_, ?_, ?_, ?_, ?_, ?_, hu⟩
  · unfold RFs; rw [e (o + 9) 0 (by omega), e (o + 9) 1 (by omega), e (o + 9) 2 (by omega), e (o + 9) 3 (by omega), e o 7 (by omega), e o 8 (by omega)]; exact hs
  · unfold RFn; rw [k10, k11, p1]; exact hn
  · unfold RFx; rw [k12, k13, p1, p8, p13]; exact hxx
  · exact hh
  · exact hi
  · exact hg
  · unfold RFb; simp only [mce, bwe]; rw [p1, p8, stI_2]; exact hb
theorem over_Mono {τ : Mm} {z : Int} : Mono τ (stI τ 0 23 z) := by
  have e : ∀ k j, ¬ (k = 0 ∧ j = 23) → (stI τ 0 23 z).1 k j = τ.1 k j := fun k j hk => by rw [stI_1, if_neg hk]
  exact ⟨⟨fun k hk => ⟨by funext i; exact e k i (by omega), rfl⟩, fun j _ h2 _ _ _ _ => e 0 j (by omega)⟩, ⟨by rw [e 0 24 (by decide)]; exact Int.le_refl _, by rw [e 0 29 (by decide)]; exact Int.le_refl _⟩, fun n _ => ⟨e 13 n (by omega), e 14 n (by omega), e 15 n (by omega)⟩, fun n _ => ⟨e 17 n (by omega), e 18 n (by omega)⟩, fun _ _ _ h => h, fun _ _ _ h => h, fun _ _ _ h => h⟩
theorem many_CF {o : Nat} {σ : Mm} {z : Int} : CF o σ (stI σ (o + 9) 4 z) := fun k hk => ⟨by funext i; rw [stI_1, if_neg (by omega)], rfl⟩
theorem Ov_now {o : Nat} (ho : o = 15 ∨ o = 29) {σC τ : Mm} (h : RF o σC τ) (hd : τ.1 0 19 ≠ 0) : Ov o σC τ (stI σC (o + 9) 4 1) (stI τ 0 23 1) :=
  ⟨hd, ⟨by rw [stI_1, if_pos ⟨rfl, rfl⟩], ⟨σC, RF_over ho h 1⟩, over_Mono⟩, by rw [stI_1, if_pos ⟨rfl, rfl⟩], many_CF, τ, RF_many ho h 1, Mono.rf⟩
