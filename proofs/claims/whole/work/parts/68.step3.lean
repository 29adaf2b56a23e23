def stM19 (τ : Mm) (m k a b c d : Int) : Mm := stI (stI (stI (stI (stI (stI (stI (stI (stI (stI τ 6 (Int.toNat (τ.1 0 7)) m) 7 (Int.toNat (τ.1 0 7)) (τ.1 4 (Int.toNat m))) 8 (Int.toNat (τ.1 0 7)) k) 9 (Int.toNat (τ.1 0 7)) a) 10 (Int.toNat (τ.1 0 7)) b) 11 (Int.toNat (τ.1 0 7)) c) 12 (Int.toNat (τ.1 0 7)) d) 5 (Int.toNat (90 * m + τ.1 4 (Int.toNat m))) (τ.1 0 7)) 4 (Int.toNat m) (τ.1 4 (Int.toNat m) + 1)) 0 7 (τ.1 0 7 + 1)
def stMF (τ : Mm) (m k a b c d : Int) : Mm := stI (stI (stI (stM19 τ m k a b c d) 0 8 (τ.1 0 8 + if 2 ≤ k then 0 else 1)) 0 16 0) 0 37 0
theorem g_67 {τ : Mm} {m k a b c d : Int} (hm : 0 ≤ m ∧ m < 12) (hs : 0 ≤ τ.1 0 7 ∧ τ.1 0 7 < 90) (hl : 0 ≤ τ.1 4 (Int.toNat m) ∧ τ.1 4 (Int.toNat m) < 90) (hk : 0 ≤ τ.1 0 8 ∧ τ.1 0 8 ≤ 55) : f_X7_step_67 m k a b c d τ = some (τ.1 0 7, stMF τ m k a b c d) := by
  unfold f_X7_step_67
  have a1 : (stI τ 6 (Int.toNat (τ.1 0 7)) m).1 0 7 = τ.1 0 7 := by simp [stI_1]
  have a2 : (stI τ 6 (Int.toNat (τ.1 0 7)) m).1 4 (Int.toNat m) = τ.1 4 (Int.toNat m) := by simp [stI_1]
  rw [a1, a2, ck_pos (by omega), ck_pos (by omega), ck_pos (by omega), bind_s]
  generalize h4 : stI (stI τ 6 (Int.toNat (τ.1 0 7)) m) 7 (Int.toNat (τ.1 0 7)) (τ.1 4 (Int.toNat m)) = τ4
  have b1 : τ4.1 0 7 = τ.1 0 7 := by rw [← h4]; simp [stI_1]
  have b2 : (stI τ4 8 (Int.toNat (τ.1 0 7)) k).1 0 7 = τ.1 0 7 := by rw [← b1]; simp [stI_1]
  rw [b1, b2, ck_pos (by omega), ck_pos (by omega), bind_s]
  generalize h7 : stI (stI τ4 8 (Int.toNat (τ.1 0 7)) k) 9 (Int.toNat (τ.1 0 7)) a = τ7
  have c1 : τ7.1 0 7 = τ.1 0 7 := by rw [← h7, ← b1]; simp [stI_1]
  have c2 : (stI τ7 10 (Int.toNat (τ.1 0 7)) b).1 0 7 = τ.1 0 7 := by rw [← c1]; simp [stI_1]
  rw [c1, c2, ck_pos (by omega), ck_pos (by omega), bind_s]
  generalize h10 : stI (stI τ7 10 (Int.toNat (τ.1 0 7)) b) 11 (Int.toNat (τ.1 0 7)) c = τ10
  have d1 : τ10.1 0 7 = τ.1 0 7 := by rw [← h10, ← c1]; simp [stI_1]
  have d4 : τ10.1 4 (Int.toNat m) = τ.1 4 (Int.toNat m) := by rw [← h10, ← h7, ← h4]; simp [stI_1]
  have d2 : (stI τ10 12 (Int.toNat (τ.1 0 7)) d).1 0 7 = τ.1 0 7 := by rw [← d1]; simp [stI_1]
  have d3 : (stI τ10 12 (Int.toNat (τ.1 0 7)) d).1 4 (Int.toNat m) = τ.1 4 (Int.toNat m) := by rw [← d4]; simp [stI_1]
  rw [d1, d2, d3, ck_pos (by omega), ck_pos (by omega), ck_pos (by omega), bind_s]
  generalize h14 : stI (stI τ10 12 (Int.toNat (τ.1 0 7)) d) 5 (Int.toNat (90 * m + τ.1 4 (Int.toNat m))) (τ.1 0 7) = τ14
  have e4 : τ14.1 4 (Int.toNat m) = τ.1 4 (Int.toNat m) := by rw [← h14, ← d4]; simp [stI_1]
  have e1 : (stI τ14 4 (Int.toNat m) (τ.1 4 (Int.toNat m) + 1)).1 0 7 = τ.1 0 7 := by rw [← h14, ← d1]; simp [stI_1]
  rw [e4, e1, ck_pos (by omega), ck_pos (by omega), ck_pos (by omega), ck_pos (by omega), bind_s]
  have h19 : stI (stI τ14 4 (Int.toNat m) (τ.1 4 (Int.toNat m) + 1)) 0 7 (τ.1 0 7 + 1) = stM19 τ m k a b c d := by rw [← h14, ← h10, ← h7, ← h4]; rfl
  rw [h19]
  have f8 : (stM19 τ m k a b c d).1 0 8 = τ.1 0 8 := by simp [stM19, stI_1]
  have f7 : ∀ v : Int, (stI (stI (stI (stM19 τ m k a b c d) 0 8 v) 0 16 0) 0 37 0).1 0 7 = τ.1 0 7 + 1 := fun v => by simp [stM19, stI_1]
  rw [f8, f7, f7, ck_pos (by omega), ck_pos (by omega), ck_pos (by omega), ck_pos (by omega)]
  unfold stMF
  by_cases h2 : 2 ≤ k
  · rw [if_pos h2, if_pos h2]
    congr 2
    omega
  · rw [if_neg h2, if_neg h2]
    congr 2
    omega
theorem cntK_congr {f g : Nat → Int} : ∀ n : Nat, (∀ j, j < n → f j = g j) → cntK f n = cntK g n
  | 0, _ => rfl
  | n + 1, h => by
    show cntK f n + _ = cntK g n + _
    rw [cntK_congr n (fun j hj => h j (by omega)), h n (by omega)]
theorem PR_step {σC σM : Mm} (h : PR σC σM) {m k a b c d : Int} (hm : 0 ≤ m ∧ m < σC.1 1 1) (hok : okS (σC.1 1 0) (σC.1 1 1) (σC.1 3) k a b c d) (hs : σC.1 1 2 < 90) (hmk : 1 < k ∨ σC.1 1 3 < 55) : PR (stCF σC m k a b c d) (stMF σM m k a b c d) := by
  obtain ⟨h1, h2, h3, h4, h5, h6, h7⟩ := h
  obtain ⟨⟨b1, b2⟩, ⟨b3, b4⟩, ⟨b5, b6⟩, ⟨b7, b8⟩, g0, g2, g7, g8⟩ := id h1
  obtain ⟨n, hn0⟩ : ∃ n : Nat, σC.1 1 2 = n := ⟨Int.toNat (σC.1 1 2), by omega⟩
  obtain ⟨q, rfl⟩ : ∃ q : Nat, m = q := ⟨Int.toNat m, by omega⟩
  obtain ⟨⟨l0, l1⟩, -, l3⟩ := h5 q (by omega)
  obtain ⟨L, hL⟩ : ∃ L : Nat, σC.1 6 q = L := ⟨Int.toNat (σC.1 6 q), by omega⟩
  have hL4 : σM.1 4 q = L := by rw [(l3 hm.2).1, hL]
  have ti : Int.toNat ((q : Int) * 90 + L) = q * 90 + L := by omega
  have ti2 : Int.toNat (90 * (q : Int) + L) = q * 90 + L := by omega
  -- what is read in the new contents
  have z10 : (stCF σC q k a b c d).1 1 0 = σC.1 1 0 := by unfold stCF stC11; split <;> simp [stC10, stI_1]
  have z11 : (stCF σC q k a b c d).1 1 1 = σC.1 1 1 := by unfold stCF stC11; split <;> simp [stC10, stI_1]
  have z12 : (stCF σC q k a b c d).1 1 2 = σC.1 1 2 + 1 := by unfold stCF stC11; split <;> simp [stC10, stI_1]
  have z13 : (stCF σC q k a b c d).1 1 3 = if 1 < k then σC.1 1 3 else σC.1 1 3 + 1 := by unfold stCF stC11; split <;> simp [stC10, stI_1]
  have z6 : ∀ j, (stCF σC q k a b c d).1 6 j = if j = q then (L : Int) + 1 else σC.1 6 j := fun j => by unfold stCF stC11; split <;> simp [stC10, stI_1, hL]
  have z7 : ∀ j, (stCF σC q k a b c d).1 7 j = if j = q * 90 + L then (n : Int) else σC.1 7 j := fun j => by unfold stCF stC11; split <;> simp [stC10, stI_1, hL, hn0, ti]
  have z8 : ∀ j, (stCF σC q k a b c d).1 8 j = if j = n then k else σC.1 8 j := fun j => by unfold stCF stC11; split <;> simp [stC10, stI_1, hn0]
  have z9 : ∀ j, (stCF σC q k a b c d).1 9 j = if j = n then a else σC.1 9 j := fun j => by unfold stCF stC11; split <;> simp [stC10, stI_1, hn0]
  have zA : ∀ j, (stCF σC q k a b c d).1 10 j = if j = n then b else σC.1 10 j := fun j => by unfold stCF stC11; split <;> simp [stC10, stI_1, hn0]
  have zB : ∀ j, (stCF σC q k a b c d).1 11 j = if j = n then c else σC.1 11 j := fun j => by unfold stCF stC11; split <;> simp [stC10, stI_1, hn0]
  have zC : ∀ j, (stCF σC q k a b c d).1 12 j = if j = n then d else σC.1 12 j := fun j => by unfold stCF stC11; split <;> simp [stC10, stI_1, hn0]
  have zD : ∀ j, (stCF σC q k a b c d).1 13 j = if j = n then (q : Int) else σC.1 13 j := fun j => by unfold stCF stC11; split <;> simp [stC10, stI_1, hn0]
  have zE : ∀ j, (stCF σC q k a b c d).1 14 j = if j = n then (L : Int) else σC.1 14 j := fun j => by unfold stCF stC11; split <;> simp [stC10, stI_1, hn0, hL]
  have zx : ∀ i, 2 ≤ i → i ≤ 5 → (stCF σC q k a b c d).1 i = σC.1 i := fun i i2 i5 => by
    funext j
    unfold stCF stC11
    split <;> simp [stC10, stI_1, show ¬ i = 0 by omega, show ¬ i = 1 by omega, show ¬ i = 6 by omega, show ¬ i = 7 by omega, show ¬ i = 8 by omega, show ¬ i = 9 by omega, show ¬ i = 10 by omega, show ¬ i = 11 by omega, show ¬ i = 12 by omega, show ¬ i = 13 by omega, show ¬ i = 14 by omega]
  have x2 := zx 2 (by omega) (by omega); have x3 := zx 3 (by omega) (by omega); have x4 := zx 4 (by omega) (by omega); have x5 := zx 5 (by omega) (by omega)
  have y00 : (stMF σM q k a b c d).1 0 0 = σM.1 0 0 := by simp [stMF, stM19, stI_1]
  have y02 : (stMF σM q k a b c d).1 0 2 = σM.1 0 2 := by simp [stMF, stM19, stI_1]
  have y07 : (stMF σM q k a b c d).1 0 7 = σC.1 1 2 + 1 := by simp [stMF, stM19, stI_1, g7]
  have y08 : (stMF σM q k a b c d).1 0 8 = σC.1 1 3 + if 2 ≤ k then 0 else 1 := by simp [stMF, stM19, stI_1, g8]
  have y4 : ∀ j, (stMF σM q k a b c d).1 4 j = if j = q then (L : Int) + 1 else σM.1 4 j := fun j => by simp [stMF, stM19, stI_1, hL4]
  have y5 : ∀ j, (stMF σM q k a b c d).1 5 j = if j = q * 90 + L then (n : Int) else σM.1 5 j := fun j => by simp [stMF, stM19, stI_1, hL4, g7, hn0, ti2]
  have y6 : ∀ j, (stMF σM q k a b c d).1 6 j = if j = n then (q : Int) else σM.1 6 j := fun j => by simp [stMF, stM19, stI_1, g7, hn0]
  have y7 : ∀ j, (stMF σM q k a b c d).1 7 j = if j = n then (L : Int) else σM.1 7 j := fun j => by simp [stMF, stM19, stI_1, g7, hn0, hL4]
  have y8 : ∀ j, (stMF σM q k a b c d).1 8 j = if j = n then k else σM.1 8 j := fun j => by simp [stMF, stM19, stI_1, g7, hn0]
  have y9 : ∀ j, (stMF σM q k a b c d).1 9 j = if j = n then a else σM.1 9 j := fun j => by simp [stMF, stM19, stI_1, g7, hn0]
  have yA : ∀ j, (stMF σM q k a b c d).1 10 j = if j = n then b else σM.1 10 j := fun j => by simp [stMF, stM19, stI_1, g7, hn0]
  have yB : ∀ j, (stMF σM q k a b c d).1 11 j = if j = n then c else σM.1 11 j := fun j => by simp [stMF, stM19, stI_1, g7, hn0]
  have yC : ∀ j, (stMF σM q k a b c d).1 12 j = if j = n then d else σM.1 12 j := fun j => by simp [stMF, stM19, stI_1, g7, hn0]
  have w1 : (stMF σM q k a b c d).1 1 = σM.1 1 := by funext j; simp [stMF, stM19, stI_1]
  have w2 : (stMF σM q k a b c d).1 2 = σM.1 2 := by funext j; simp [stMF, stM19, stI_1]
  have w3 : (stMF σM q k a b c d).1 3 = σM.1 3 := by funext j; simp [stMF, stM19, stI_1]
  refine ⟨?_, ?_, ?_, ?_, ?_, ?_, ?_⟩
  · unfold PR1
    rw [z10, z11, z12, z13, y00, y02, y07, y08]
    refine ⟨by omega, by omega, by omega, ?_, g0, g2, rfl, ?_⟩
    · split <;> omega
    · by_cases h9 : 1 < k
      · rw [if_pos h9, if_pos (by omega)]; omega
      · rw [if_neg h9, if_neg (by omega)]
  · unfold PR2
    rw [z10, x2, w1]
    exact h2
  · unfold PR3
    rw [z10, z11, x3, x4, w2, w3]
    exact h3
  · unfold PR4
    rw [z10, z11, x3, x4, x5, w1]
    exact h4
  · intro m hm12
    obtain ⟨q1, q2, q3⟩ := h5 m hm12
    rw [z6, z11, z12]
    by_cases hmq : m = q
    · subst hmq
      rw [if_pos rfl]
      refine ⟨by omega, fun z => by omega, fun _ => ?_⟩
      rw [y4, if_pos rfl]
      refine ⟨rfl, fun p hp => ?_⟩
      by_cases hpL : p = L
      · subst hpL
        rw [z7, y5, if_pos rfl, if_pos rfl, Int.toNat_natCast, zD, zE, if_pos rfl, if_pos rfl]
        exact ⟨rfl, by omega, rfl, rfl⟩
      · obtain ⟨r1, r2, r3, r4⟩ := (q3 hm.2).2 p (by omega)
        rw [z7, y5, if_neg (by omega), if_neg (by omega), zD, zE, if_neg (by omega), if_neg (by omega)]
        exact ⟨r1, by omega, r3, r4⟩
    · rw [if_neg hmq]
      refine ⟨by omega, q2, fun z => ?_⟩
      rw [y4, if_neg hmq]
      refine ⟨(q3 z).1, fun p hp => ?_⟩
      obtain ⟨r1, r2, r3, r4⟩ := (q3 z).2 p hp
      have hne : ¬ m * 90 + p = q * 90 + L := by omega
      rw [z7, y5, if_neg hne, if_neg hne, zD, zE, if_neg (by omega), if_neg (by omega)]
      exact ⟨r1, by omega, r3, r4⟩
  · intro s hs'
    rw [z12] at hs'
    rw [z10, z11, x3]
    by_cases hsn : s = n
    · subst hsn
      rw [y6, y7, y8, y9, yA, yB, yC, z8, z9, zA, zB, zC, zD, zE, if_pos rfl, if_pos rfl, if_pos rfl, if_pos rfl, if_pos rfl, if_pos rfl, if_pos rfl, if_pos rfl, if_pos rfl, if_pos rfl, if_pos rfl, if_pos rfl, if_pos rfl, if_pos rfl]
      rw [Int.toNat_natCast, Int.toNat_natCast, z6, if_pos rfl, z7, if_pos rfl]
      exact ⟨⟨rfl, rfl, rfl, rfl, rfl, rfl, rfl⟩, by omega, by omega, rfl, hok⟩
    · obtain ⟨p1, p2, p3, p4, p5⟩ := h6 s (by omega)
      rw [y6, y7, y8, y9, yA, yB, yC, z8, z9, zA, zB, zC, zD, zE, if_neg hsn, if_neg hsn, if_neg hsn, if_neg hsn, if_neg hsn, if_neg hsn, if_neg hsn, if_neg hsn, if_neg hsn, if_neg hsn, if_neg hsn, if_neg hsn, if_neg hsn, if_neg hsn]
      have hl5 : σC.1 6 (Int.toNat (σC.1 13 s)) ≤ 90 := by have := (h5 (Int.toNat (σC.1 13 s)) (by omega)).1; omega
      refine ⟨p1, p2, ?_, ?_, p5⟩
      · rw [z6]
        by_cases hq : Int.toNat (σC.1 13 s) = q
        · rw [if_pos hq]
          rw [hq, hL] at p3
          omega
        · rw [if_neg hq]; exact p3
      · rw [z7, if_neg ?_]
        · exact p4
        · intro z
          by_cases hq : Int.toNat (σC.1 13 s) = q
          · rw [hq, hL] at p3
            rw [hq] at z
            omega
          · omega
  · unfold PR7 at h7 ⊢
    rw [z12, z13, h7, hn0, show Int.toNat ((n : Int) + 1) = n + 1 by omega, Int.toNat_natCast]
    show _ = cntK _ n + if (stCF σC q k a b c d).1 8 n ≤ 1 then 1 else 0
    rw [z8, if_pos rfl, cntK_congr (f := (stCF σC q k a b c d).1 8) (g := σC.1 8) n (fun j hj => by rw [z8, if_neg (by omega)])]
    by_cases h9 : 1 < k
    · rw [if_pos h9, if_neg (by omega)]; omega
    · rw [if_neg h9, if_pos (by omega)]
theorem step_sim {σC σM : Mm} (h : PR σC σM) (m k a b c d : Int) : Sim1 (f_X6_step m k a b c d σC) (f_X7_step m k a b c d σM) σC σM := by
  obtain ⟨h1, h2, h3, h4, h5, h6, h7⟩ := id h
  obtain ⟨⟨b1, b2⟩, ⟨b3, b4⟩, ⟨b5, b6⟩, ⟨b7, b8⟩, g0, g2, g7, g8⟩ := id h1
  obtain ⟨s1, s2⟩ := e_step (σ := σC) (x := m) (k := k) (a := a) (b := b) (c := c) (d := d) b4
  have hM : f_X7_step m k a b c d σM = (if 0 ≤ m ∧ m < σC.1 1 1 then if 0 ≤ k ∧ k ≤ 16 then (f_X7_areRight k a b c d σM).bind (fun r38 => (if r38 = 0 then some ((-1), σM) else (if (σM.1 0 7) = 90 then some ((-3), σM) else (if 2 ≤ k then f_X7_step_67 m k a b c d σM else (if (σM.1 0 8) = 55 then some ((-3), σM) else f_X7_step_67 m k a b c d σM))))) else some (-1, σM) else some (-1, σM)) := by
    unfold f_X7_step
    rw [ck_pos (by omega), g_in, b_if]
    by_cases z1 : 0 ≤ m ∧ m < σC.1 1 1
    · rw [if_pos (by omega), if_pos z1, g_in, b_if]
    · rw [if_neg (by omega), if_neg z1]
  rw [hM]
  by_cases z1 : 0 ≤ m ∧ m < σC.1 1 1
  · rw [if_pos z1]
    by_cases z2 : 0 ≤ k ∧ k ≤ 16
    · rw [if_pos z2]
      obtain ⟨r1, r2⟩ := g_right h1 h3 (a := a) (b := b) (c := c) (d := d) z2
      by_cases z3 : okS (σC.1 1 0) (σC.1 1 1) (σC.1 3) k a b c d
      · obtain ⟨q, rfl⟩ : ∃ q : Nat, m = q := ⟨Int.toNat m, by omega⟩
        obtain ⟨⟨l0, l1⟩, -, l3⟩ := h5 q (by omega)
        have hl4 := (l3 z1.2).1
        rw [s1 ⟨z1.1, z1.2, z3⟩, r1 z3, bind_s, if_neg (by decide), e_stRest (by omega) ⟨b5, b6⟩ (by rw [Int.toNat_natCast]; omega) ⟨b7, b8⟩, g7, g8]
        by_cases z4 : σC.1 1 2 < 90 ∧ (1 < k ∨ σC.1 1 3 < 55)
        · right
          have hfin : f_X7_step_67 q k a b c d σM = some (σC.1 1 2, stMF σM q k a b c d) := by
            rw [g_67 (by omega) (by omega) (by rw [Int.toNat_natCast]; omega) (by omega), g7]
          rw [if_pos z4, if_neg (by omega), hfin]
          refine ⟨_, _, _, rfl, ?_, PR_step h z1 z3 z4.1 z4.2, ?_⟩
          · by_cases z5 : 2 ≤ k
            · rw [if_pos z5]
            · rw [if_neg z5, if_neg (by omega)]
          · refine ⟨?_, ?_, ?_, ?_, ?_, ?_⟩
            · unfold stCF; simp [stI_1]
            · unfold stCF; simp [stI_1]
            · simp [stMF, stI_1]
            · simp [stMF, stI_1]
            · unfold stCF stC11; split <;> simp [stC10, stI_1]
            · simp [stMF, stM19, stI_1]
        · left
          rw [if_neg z4]
          refine ⟨_, rfl, ?_⟩
          by_cases z5 : σC.1 1 2 = 90
          · rw [if_pos z5]
          · rw [if_neg z5, if_neg (by omega), if_pos (by omega)]
      · left
        rw [s2 (fun z => z3 z.2.2), r2 z3, bind_s, if_pos rfl]
        exact ⟨_, rfl, rfl⟩
    · left
      rw [if_neg z2, s2 (fun z => z2 z.2.2.1)]
      exact ⟨_, rfl, rfl⟩
  · left
    rw [if_neg z1, s2 (fun z => z1 ⟨z.1, z.2.1⟩)]
    exact ⟨_, rfl, rfl⟩
