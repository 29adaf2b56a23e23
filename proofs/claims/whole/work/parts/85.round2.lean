/-! rounds -/
def AllCl (σC τ : Mm) : Prop := ∀ n p : Nat, (n : Int) < τ.1 0 24 → (p : Int) < σC.1 6 (Int.toNat (τ.1 13 n)) → Cl σC τ n (ln σC (Int.toNat (τ.1 13 n)) p)
def FdEnd (o : Nat) (σC τ : Mm) : Prop := RF o σC τ ∧ σC.1 (o + 9) 4 = 0 ∧ τ.1 0 23 = 0 ∧ τ.1 0 22 = 0 ∧ Org σC τ ∧ AllCl σC τ
def Root (τ : Mm) (m : Int) : Prop := 1 ≤ τ.1 0 24 ∧ τ.1 13 0 = m ∧ τ.1 14 0 = -1 ∧ τ.1 15 0 = -1
def MF2 (τ τ' : Mm) : Prop := (∀ k, (1 ≤ k ∧ k ≤ 12) ∨ 21 ≤ k → τ'.1 k = τ.1 k ∧ τ'.2 k = τ.2 k) ∧ (∀ j, j ≠ 21 → j ≠ 22 → j ≠ 23 → j ≠ 24 → j ≠ 29 → j ≠ 34 → j ≠ 35 → τ'.1 0 j = τ.1 0 j)
theorem MF2.tr {a b c : Mm} (h1 : MF2 a b) (h2 : MF2 b c) : MF2 a c := ⟨fun k hk => ⟨(h2.1 k hk).1.trans (h1.1 k hk).1, (h2.1 k hk).2.trans (h1.1 k hk).2⟩, fun j a0 a1 a2 a3 a4 a5 a6 => (h2.2 j a0 a1 a2 a3 a4 a5 a6).trans (h1.2 j a0 a1 a2 a3 a4 a5 a6)⟩
theorem MF.two {a b : Mm} (h : MF a b) : MF2 a b := ⟨h.1, fun j _ a1 a2 a3 a4 a5 a6 => h.2 j a1 a2 a3 a4 a5 a6⟩
theorem Root_mono {τ τ' : Mm} {m : Int} (hM : Mono τ τ') (h : Root τ m) : Root τ' m := by
  obtain ⟨h1, h2, h3, h4⟩ := h
  obtain ⟨e1, e2, e3⟩ := hM.2.2.1 0 (by omega)
  exact ⟨by have := hM.2.1.1; omega, e1.trans h2, e2.trans h3, e3.trans h4⟩
theorem PR_frame2 {o : Nat} (ho : o = 15 ∨ o = 29) {σC σC' τ τ' : Mm} (h : PR σC τ) (hC : CF o σC σC') (hM : MF2 τ τ') : PR σC' τ' :=
  PR_congr h (fun k _ k14 => (hC k (Or.inl (by omega))).1) (fun k k1 k12 => (hM.1 k (Or.inl ⟨k1, k12⟩)).1) (hM.2 0 (by decide) (by decide) (by decide) (by decide) (by decide) (by decide) (by decide)) (hM.2 2 (by decide) (by decide) (by decide) (by decide) (by decide) (by decide) (by decide)) (hM.2 7 (by decide) (by decide) (by decide) (by decide) (by decide) (by decide) (by decide)) (hM.2 8 (by decide) (by decide) (by decide) (by decide) (by decide) (by decide) (by decide))
/-- a round begins -/
theorem RF_begin {o : Nat} (ho : o = 15 ∨ o = 29) {σC τ : Mm} (h : RF o σC τ) (r : Int) : RF o (stI (stI σC o 7 0) o 8 r) (stI (stI τ 0 22 0) 0 21 r) ∧ CF o σC (stI (stI σC o 7 0) o 8 r) ∧ MF2 τ (stI (stI τ 0 22 0) 0 21 r) := by
  have h15 : 15 ≤ o := by rcases ho with rfl | rfl <;> decide
  have e : ∀ k j, ¬ (k = 0 ∧ (j = 22 ∨ j = 21)) → (stI (stI τ 0 22 0) 0 21 r).1 k j = τ.1 k j := fun k j hk => by rw [stI_1, if_neg (by omega), stI_1, if_neg (by omega)]
  have c : ∀ k j, ¬ (k = o ∧ (j = 7 ∨ j = 8)) → (stI (stI σC o 7 0) o 8 r).1 k j = σC.1 k j := fun k j hk => by rw [stI_1, if_neg (by omega), stI_1, if_neg (by omega)]
  have cf : CF o σC (stI (stI σC o 7 0) o 8 r) := fun k hk => ⟨by funext i; exact c k i (by omega), rfl⟩
  have mf : MF2 τ (stI (stI τ 0 22 0) 0 21 r) := ⟨fun k hk => ⟨by funext i; exact e k i (by omega), rfl⟩, fun j h1 h2 _ _ _ _ _ => e 0 j (by omega)⟩
  obtain ⟨hP, ⟨⟨s1, s2, s3, s4, s5, s6⟩, s7, s8, s9, s10, s11⟩, hn, hxx, hh, hi, hg, hb, hu⟩ := h
  have e24 := e 0 24 (by decide); have e29 := e 0 29 (by decide); have e18 := e 0 18 (by decide); have e19 := e 0 19 (by decide)
  have e13 : (stI (stI τ 0 22 0) 0 21 r).1 13 = τ.1 13 := by funext i; exact e 13 i (by omega)
  have e14 : (stI (stI τ 0 22 0) 0 21 r).1 14 = τ.1 14 := by funext i; exact e 14 i (by omega)
  have e15 : (stI (stI τ 0 22 0) 0 21 r).1 15 = τ.1 15 := by funext i; exact e 15 i (by omega)
  have e17 : (stI (stI τ 0 22 0) 0 21 r).1 17 = τ.1 17 := by funext i; exact e 17 i (by omega)
  have e18' : (stI (stI τ 0 22 0) 0 21 r).1 18 = τ.1 18 := by funext i; exact e 18 i (by omega)
  have xse : ∀ i, xst (stI (stI τ 0 22 0) 0 21 r) i = xst τ i := fun i => by unfold xst; rw [e17]
  have p1 := (cf 1 (Or.inl (Nat.lt_of_lt_of_le (by decide) h15))).1; have p2 := (cf 2 (Or.inl (Nat.lt_of_lt_of_le (by decide) h15))).1; have p8 := (cf 8 (Or.inl (Nat.lt_of_lt_of_le (by decide) h15))).1; have p10 := (cf 10 (Or.inl (Nat.lt_of_lt_of_le (by decide) h15))).1; have p13 := (cf 13 (Or.inl (Nat.lt_of_lt_of_le (by decide) h15))).1
  have mce : ∀ i, mcl (stI (stI σC o 7 0) o 8 r) i = mcl σC i := fun i => by unfold mcl; rw [p8, p10]
  have bwe : ∀ a b, blw (stI (stI σC o 7 0) o 8 r) a b = blw σC a b := fun a b => by unfold blw; rw [p2]
  have k10 : (stI (stI σC o 7 0) o 8 r).1 (o + 10) = σC.1 (o + 10) := by funext i; exact c _ i (by omega)
  have k11 : (stI (stI σC o 7 0) o 8 r).1 (o + 11) = σC.1 (o + 11) := by funext i; exact c _ i (by omega)
  have k12 : (stI (stI σC o 7 0) o 8 r).1 (o + 12) = σC.1 (o + 12) := by funext i; exact c _ i (by omega)
  have k13 : (stI (stI σC o 7 0) o 8 r).1 (o + 13) = σC.1 (o + 13) := by funext i; exact c _ i (by omega)
  have z1 : (stI (stI σC o 7 0) o 8 r).1 o 7 = 0 := by rw [stI_1, if_neg (by omega), stI_1, if_pos ⟨rfl, rfl⟩]
  have z2 : (stI (stI σC o 7 0) o 8 r).1 o 8 = r := by rw [stI_1, if_pos ⟨rfl, rfl⟩]
  have z3 : (stI (stI τ 0 22 0) 0 21 r).1 0 22 = 0 := by rw [stI_1, if_neg (by omega), stI_1, if_pos ⟨rfl, rfl⟩]
  have z4 : (stI (stI τ 0 22 0) 0 21 r).1 0 21 = r := by rw [stI_1, if_pos ⟨rfl, rfl⟩]
  refine ⟨⟨PR_frame2 ho hP cf mf, ?_, ?_, ?_, ?_, ?_, ?_, ?_, ?_⟩, cf, mf⟩
  · unfold RFs; rw [c (o + 9) 0 (by omega), c (o + 9) 1 (by omega), c (o + 9) 2 (by omega), c (o + 9) 3 (by omega), z1, z2, z3, z4, e24, e29, e18, e19]
    exact ⟨⟨s1, s2, s3, s4, rfl, rfl⟩, s7, s8, s9, s10, Or.inl rfl⟩
  · unfold RFn; rw [k10, k11, p1, e24, e13, e14, e15, e19]; exact hn
  · unfold RFx; simp only [xse]; rw [k12, k13, p1, p8, p13, e29, e24, e17, e18', e13]; exact hxx
  · unfold RFh; rw [e24, e29]; exact hh
  · unfold RFi; rw [e29]; exact hi
  · unfold RFg; rw [e29]; exact hg
  · unfold RFb; simp only [xse, mce, bwe]; rw [p1, p8, e29]; exact hb
  · unfold RFu; rw [e24, e29, e13, e14, e15, e17, e18']; exact hu
theorem begin_rows {τ : Mm} {r : Int} : ∀ k j, ¬ (k = 0 ∧ (j = 22 ∨ j = 21)) → (stI (stI τ 0 22 0) 0 21 r).1 k j = τ.1 k j := fun k j hk => by rw [stI_1, if_neg (by omega), stI_1, if_neg (by omega)]
theorem Org_begin {o : Nat} (ho : o = 15 ∨ o = 29) {σC τ : Mm} (r : Int) (hO : Org σC τ) : Org (stI (stI σC o 7 0) o 8 r) (stI (stI τ 0 22 0) 0 21 r) := by
  have h15 : 15 ≤ o := by rcases ho with rfl | rfl <;> decide
  have c : ∀ k, k < 15 → (stI (stI σC o 7 0) o 8 r).1 k = σC.1 k := fun k hk => by funext j; rw [stI_1, if_neg (by omega), stI_1, if_neg (by omega)]
  have e13 : (stI (stI τ 0 22 0) 0 21 r).1 13 = τ.1 13 := by funext i; exact begin_rows 13 i (by omega)
  have e14 : (stI (stI τ 0 22 0) 0 21 r).1 14 = τ.1 14 := by funext i; exact begin_rows 14 i (by omega)
  have e15 : (stI (stI τ 0 22 0) 0 21 r).1 15 = τ.1 15 := by funext i; exact begin_rows 15 i (by omega)
  have e17 : (stI (stI τ 0 22 0) 0 21 r).1 17 = τ.1 17 := by funext i; exact begin_rows 17 i (by omega)
  have e18 : (stI (stI τ 0 22 0) 0 21 r).1 18 = τ.1 18 := by funext i; exact begin_rows 18 i (by omega)
  intro t h0 ht
  rw [begin_rows 0 24 (by decide)] at ht
  obtain ⟨k, s, q1, q2, q3, q4⟩ := hO t h0 ht
  refine ⟨k, s, q1, by rw [c 1 (by omega)]; exact q2, by rw [c 13 (by omega), e13]; exact q3, ?_⟩
  unfold Led mnt mcl xst call1 call2 ask1 ask2 at q4 ⊢
  rw [c 8 (by omega), c 11 (by omega), c 10 (by omega), c 5 (by omega), e13, e14, e15, e17, e18, begin_rows 0 18 (by decide), begin_rows 0 19 (by decide), begin_rows 0 29 (by decide)]
  exact q4
theorem rounds_loop {o : Nat} (ho : o = 15 ∨ o = 29) {m : Int} : ∀ (k f : Nat) (σC τ : Mm), RF o σC τ → σC.1 (o + 9) 4 = 0 → τ.1 0 23 = 0 → τ.1 0 22 = 1 → Org σC τ → Root τ m → (0 ≤ τ.1 0 21 ∧ τ.1 0 21 ≤ cnt τ) → 61001 ≤ k + cnt τ → k < f → ∃ σ1 τ1, f_X0_attempt_47 o f σC = some σ1 ∧ f_X7_finds_64 f τ = some τ1 ∧ CF o σC σ1 ∧ MF2 τ τ1 ∧ ((FdEnd o σ1 τ1 ∧ Root τ1 m) ∨ (τ.1 0 19 ≠ 0 ∧ σ1.1 (o + 9) 4 = 1 ∧ τ1.1 0 23 = 1)) := by
  intro k
  induction k with
  | zero =>
    intro f σC τ h h4 h0 hm hO hR hr hk hf
    have := cnt_b h.2.1.2.1.2 h.2.1.2.2.1.2
    omega
  | succ k ih =>
    intro f σC τ h h4 h0 hm hO hR hr hk hf
    obtain ⟨f, rfl⟩ : ∃ g, f = g + 1 := ⟨f - 1, by omega⟩
    obtain ⟨g, rfl⟩ : ∃ g, f = g + 1 := ⟨f - 1, by omega⟩
    have hcb := cnt_b h.2.1.2.1.2 h.2.1.2.2.1.2
    obtain ⟨⟨t1, t2, t3, t4, t5, t6⟩, s7, -⟩ := h.2.1
    generalize hra : τ.1 0 21 = r at *
    obtain ⟨ha, hcf, hmf⟩ := RF_begin ho h (r + 1)
    have hOa := Org_begin ho (r + 1) hO (σC := σC)
    have cntE : cnt (stI (stI τ 0 22 0) 0 21 (r + 1)) = cnt τ := Same_cnt ⟨begin_rows 0 24 (by decide), begin_rows 0 29 (by decide), fun _ _ => rfl, fun _ _ => rfl, fun _ _ => rfl⟩
    have a22 : (stI (stI τ 0 22 0) 0 21 (r + 1)).1 0 22 = 0 := by rw [stI_1, if_neg (by omega), stI_1, if_pos ⟨rfl, rfl⟩]
    have a21 : (stI (stI τ 0 22 0) 0 21 (r + 1)).1 0 21 = r + 1 := by rw [stI_1, if_pos ⟨rfl, rfl⟩]
    have a19 : (stI (stI τ 0 22 0) 0 21 (r + 1)).1 0 19 = τ.1 0 19 := begin_rows 0 19 (by decide)
    have hRa : Root (stI (stI τ 0 22 0) 0 21 (r + 1)) m := by
      unfold Root
      rw [begin_rows 0 24 (by decide), begin_rows 13 0 (by decide), begin_rows 14 0 (by decide), begin_rows 15 0 (by decide)]
      exact hR
    have c4 : (stI (stI σC o 7 0) o 8 (r + 1)).1 (o + 9) 4 = 0 := by rw [stI_1, if_neg (by omega), stI_1, if_neg (by omega), h4]
    have a23 : (stI (stI τ 0 22 0) 0 21 (r + 1)).1 0 23 = 0 := by rw [begin_rows 0 23 (by decide), h0]
    have eC : f_X0_attempt_47 o (g + 1 + 1) σC = f_X0_attempt_91 o (f_X0_attempt_47 o (g + 1)) 2000 0 (stI (stI σC o 7 0) o 8 (r + 1)) := by
      rw [f_X0_attempt_47, if_neg (by omega), if_pos h4, if_neg (by omega)]
      have e8 : (stI σC o 7 0).1 o 8 = r := by rw [stI_1, if_neg (by omega), t6]
      rw [e8, ck_pos (by omega)]
    have eM : f_X7_finds_64 (g + 1 + 1) τ = f_X7_finds_95 (f_X7_finds_64 (g + 1)) 2000 0 (stI (stI τ 0 22 0) 0 21 (r + 1)) := by
      rw [f_X7_finds_64, if_neg (by omega), if_pos h0]
      have e8 : (stI τ 0 22 0).1 0 21 = r := by rw [stI_1, if_neg (by omega), hra]
      rw [e8, ck_pos (by omega)]
    generalize stI (stI σC o 7 0) o 8 (r + 1) = σa at *
    generalize stI (stI τ 0 22 0) 0 21 (r + 1) = τa at *
    obtain ⟨σ1, τ1, w1, w2, w3⟩ := nodes_round ho (σa := σa) (τa := τa) (f_X0_attempt_47 o (g + 1)) (f_X7_finds_64 (g + 1)) 81 2000 0 σa τa ⟨ha, CF.rf, Up.rf, c4, a23, hOa⟩ (by have := hRa.1; omega) (fun _ n' p' hlt => by omega) (by omega) (by omega)
    rw [show ((0 : Nat) : Int) = 0 from rfl] at w1 w2
    rw [eC, eM, w1, w2]
    rcases w3 with ⟨⟨r1, r2, r3, r4, r5, r6⟩, hPg⟩ | w3
    · have hR1 := Root_mono r3.1 hRa
      have mf1 := hmf.tr r3.1.1.two
      have t5' := r1.2.1.1.2.2.2.2.1
      have s11' := r1.2.1.2.2.2.2.2
      by_cases hm1 : τ1.1 0 22 = 0
      · refine ⟨σ1, τ1, ?_, ?_, hcf.tr r2, mf1, Or.inl ⟨⟨r1, r4, r5, hm1, r6, fun n p hn hp => hPg hm1 n p (by have := r1.2.1.2.1; omega) hn hp⟩, hR1⟩⟩
        · rw [f_X0_attempt_47, if_pos (by omega)]
        · rw [f_X7_finds_64, if_pos hm1]
      · have hup : cnt τa < cnt τ1 := by
          rcases r3.2 with ⟨e1, -⟩ | ⟨-, e2⟩
          · omega
          · exact e2
        have e21 : τ1.1 0 21 = τa.1 0 21 := r3.1.1.2 21 (by decide) (by decide) (by decide) (by decide) (by decide) (by decide)
        have e19 : τ1.1 0 19 = τa.1 0 19 := r3.1.1.2 19 (by decide) (by decide) (by decide) (by decide) (by decide) (by decide)
        obtain ⟨σ2, τ2, v1, v2, v3, v4, v5⟩ := ih (g + 1) σ1 τ1 r1 r4 r5 (by omega) r6 hR1 (by omega) (by omega) (by omega)
        refine ⟨σ2, τ2, v1, v2, (hcf.tr r2).tr v3, mf1.tr v4, ?_⟩
        rcases v5 with v5 | ⟨v5, v6⟩
        · exact Or.inl v5
        · exact Or.inr ⟨by omega, v6⟩
    · obtain ⟨y1, ⟨y2, -, y4⟩, y5, y6, -⟩ := w3
      refine ⟨σ1, τ1, ?_, ?_, hcf.tr y6, hmf.tr y4.1.two, Or.inr ⟨by omega, y5, y2⟩⟩
      · rw [f_X0_attempt_47, if_neg (show ¬ σ1.1 (o + 9) 4 = 0 by omega), ite_self]
      · rw [f_X7_finds_64, if_neg (show ¬ τ1.1 0 23 = 0 by omega), ite_self]
