/-! cls -/
theorem okS_mono {nC nC' nM nM' : Int} {mc mc' : Nat → Int} {k a b c d : Int} (h1 : nC ≤ nC') (h2 : nM ≤ nM') (h3 : ∀ j : Nat, (j : Int) < nM → mc j < 0 → mc' j < 0) (h : okS nC nM mc k a b c d) : okS nC' nM' mc' k a b c d := by
  obtain ⟨q0, q1, q2, q3, q4, q5, q6, q7, q8, q9, q10⟩ := h
  refine ⟨q0, q1, fun z => ?_, q3, q4, q5, q6, fun z => ?_, q8, fun z => ?_, q10⟩
  · have := q2 z; exact ⟨this.1, by omega⟩
  · have := q7 z; exact ⟨this.1, by omega⟩
  · obtain ⟨r1, r2, r3⟩ := q9 z
    exact ⟨r1, by omega, h3 _ (by omega) r3⟩
def clsC (σ : Mm) (x : Int) : Mm := stI (stI (stI (cpI (stI σ 2 (Int.toNat (σ.1 1 0)) (iOr (σ.1 2 (Int.toNat x)) (iShl 1 (σ.1 1 0)))) 5 5 (Int.toNat (x * 8)) (Int.toNat (σ.1 1 0 * 8)) 8) 1 0 (σ.1 1 0 + 1)) 0 5 0) 0 6 0
def clsM (σ : Mm) (x : Int) : Mm := stI (stI (stI (stI σ 1 (Int.toNat (σ.1 0 0)) x) 0 0 (σ.1 0 0 + 1)) 0 16 0) 0 37 0
theorem e_cls {σ : Mm} {x : Int} (h : 1 ≤ σ.1 1 0 ∧ σ.1 1 0 ≤ 10) : f_X6_cls x σ = some (if 0 ≤ x ∧ x < σ.1 1 0 then if σ.1 1 0 < 10 then (σ.1 1 0, clsC σ x) else (-3, σ) else (-1, σ)) := by
  unfold f_X6_cls
  rw [e_isClass, bind_s]
  by_cases h1 : 0 ≤ x ∧ x < σ.1 1 0
  · rw [b01_t h1, if_neg (by omega), if_pos h1]
    by_cases h2 : σ.1 1 0 < 10
    · rw [if_pos h2, if_pos h2]
      unfold f_X3_addClass
      rw [ck_pos (by omega), ck_pos (by omega), bind_s]
      have e1 : (stI σ 2 (Int.toNat (σ.1 1 0)) (iOr (σ.1 2 (Int.toNat x)) (iShl 1 (σ.1 1 0)))).1 1 0 = σ.1 1 0 := by simp [stI_1]
      rw [e1, ck_pos (by omega), bind_s]
      have e2 : (cpI (stI σ 2 (Int.toNat (σ.1 1 0)) (iOr (σ.1 2 (Int.toNat x)) (iShl 1 (σ.1 1 0)))) 5 5 (Int.toNat (x * 8)) (Int.toNat (σ.1 1 0 * 8)) 8).1 1 0 = σ.1 1 0 := by simp [cpI_1, stI_1]
      rw [e2, ck_pos (by omega)]
      simp only [stI_1, and_self, if_true]
      rw [ck_pos (by omega), bind_s]
      unfold f_X6_changed
      rw [bind_s]
      congr 2
      omega
    · rw [if_neg h2, if_neg h2]
  · rw [b01_f h1, if_pos rfl, if_neg h1]
theorem g_cls {σ : Mm} {x : Int} (h : 1 ≤ σ.1 0 0 ∧ σ.1 0 0 ≤ 10) : f_X7_cls x σ = some (if 0 ≤ x ∧ x < σ.1 0 0 then if σ.1 0 0 < 10 then (σ.1 0 0, clsM σ x) else (-3, σ) else (-1, σ)) := by
  unfold f_X7_cls
  rw [g_isClass x h, bind_s]
  by_cases h1 : 0 ≤ x ∧ x < σ.1 0 0
  · rw [b01_t (by omega), if_neg (by omega), if_pos h1]
    by_cases h2 : σ.1 0 0 < 10
    · rw [if_neg (by omega), if_pos h2, ck_pos (by omega)]
      have e1 : (stI σ 1 (Int.toNat (σ.1 0 0)) x).1 0 0 = σ.1 0 0 := by simp [stI_1]
      rw [e1, ck_pos (by omega), bind_s]
      have e2 : (stI (stI (stI (stI σ 1 (Int.toNat (σ.1 0 0)) x) 0 0 (σ.1 0 0 + 1)) 0 16 0) 0 37 0).1 0 0 = σ.1 0 0 + 1 := by simp [stI_1]
      rw [e2, ck_pos (by omega)]
      unfold clsM
      congr 2
      omega
    · rw [if_pos (by omega), if_neg h2]
  · rw [b01_f (by omega), if_pos rfl, if_neg h1]
theorem PR_cls {σC σM : Mm} (h : PR σC σM) {x : Int} (hx : 0 ≤ x ∧ x < σC.1 1 0) (hn : σC.1 1 0 < 10) : PR (clsC σC x) (clsM σM x) := by
  obtain ⟨h1, h2, h3, h4, h5, h6, h7⟩ := h
  have e0 : σM.1 0 0 = σC.1 1 0 := h1.2.2.2.2.1
  obtain ⟨⟨b1, b2⟩, ⟨b3, b4⟩, ⟨b5, b6⟩, ⟨b7, b8⟩, -, g2, g7, g8⟩ := id h1
  obtain ⟨n, hn0⟩ : ∃ n : Nat, σC.1 1 0 = n := ⟨Int.toNat (σC.1 1 0), by omega⟩
  obtain ⟨z, hz⟩ : ∃ z : Nat, x = z := ⟨Int.toNat x, by omega⟩
  subst hz
  -- what is read in the new contents
  have c10 : (clsC σC z).1 1 0 = σC.1 1 0 + 1 := by simp [clsC, stI_1]
  have c1x : ∀ j, j ≠ 0 → (clsC σC z).1 1 j = σC.1 1 j := fun j hj => by simp [clsC, stI_1, cpI_1, hj]
  have c2 : ∀ j, (clsC σC z).1 2 j = if j = n then iOr (σC.1 2 z) (iShl 1 (n : Int)) else σC.1 2 j := fun j => by simp [clsC, stI_1, cpI_1, hn0]
  have c5 : ∀ j, (clsC σC z).1 5 j = if n * 8 ≤ j ∧ j < n * 8 + 8 then σC.1 5 (z * 8 + (j - n * 8)) else σC.1 5 j := fun j => by
    have t1 : Int.toNat ((n : Int) * 8) = n * 8 := by omega
    have t2 : Int.toNat ((z : Int) * 8) = z * 8 := by omega
    simp [clsC, stI_1, cpI_1, hn0, t1, t2]
  have cx : ∀ k, 3 ≤ k → k ≠ 5 → (clsC σC z).1 k = σC.1 k := fun k hk hk5 => by
    funext j
    simp [clsC, stI_1, cpI_1, show ¬ k = 0 by omega, show ¬ k = 1 by omega, show ¬ k = 2 by omega, hk5]
  have m1 : ∀ j, (clsM σM z).1 1 j = if j = n then (z : Int) else σM.1 1 j := fun j => by simp [clsM, stI_1, e0, hn0]
  have m0 : (clsM σM z).1 0 0 = σC.1 1 0 + 1 := by simp [clsM, stI_1, e0]
  have m0x : ∀ j, j ≠ 0 → j ≠ 16 → j ≠ 37 → (clsM σM z).1 0 j = σM.1 0 j := fun j h1 h2 h3 => by simp [clsM, stI_1, h1, h2, h3]
  have mx : ∀ k, 2 ≤ k → (clsM σM z).1 k = σM.1 k := fun k hk => by
    funext j
    simp [clsM, stI_1, show ¬ k = 0 by omega, show ¬ k = 1 by omega]
  have x3 := cx 3 (by omega) (by omega); have x4 := cx 4 (by omega) (by omega); have x6 := cx 6 (by omega) (by omega); have x7 := cx 7 (by omega) (by omega); have x8 := cx 8 (by omega) (by omega); have x9 := cx 9 (by omega) (by omega); have x10 := cx 10 (by omega) (by omega); have x11 := cx 11 (by omega) (by omega); have x12 := cx 12 (by omega) (by omega); have x13 := cx 13 (by omega) (by omega); have x14 := cx 14 (by omega) (by omega)
  have y2 := mx 2 (by omega); have y3 := mx 3 (by omega); have y4 := mx 4 (by omega); have y5 := mx 5 (by omega); have y6 := mx 6 (by omega); have y7 := mx 7 (by omega); have y8 := mx 8 (by omega); have y9 := mx 9 (by omega); have y10 := mx 10 (by omega); have y11 := mx 11 (by omega); have y12 := mx 12 (by omega)
  have k1 := c1x 1 (by omega); have k2 := c1x 2 (by omega); have k3 := c1x 3 (by omega)
  refine ⟨?_, ?_, ?_, ?_, ?_, ?_, ?_⟩
  · unfold PR1
    rw [c10, k1, k2, k3, m0, m0x 2 (by omega) (by omega) (by omega), m0x 7 (by omega) (by omega) (by omega), m0x 8 (by omega) (by omega) (by omega)]
    exact ⟨by omega, by omega, by omega, by omega, rfl, g2, g7, g8⟩
  · refine ⟨?_, ?_⟩
    · rw [m1, if_neg (by omega)]; exact h2.1
    · intro c hc
      rw [c10] at hc
      by_cases hcn : c = n
      · subst hcn
        refine ⟨fun _ => by rw [m1, if_pos rfl]; omega, fun d hd => ?_⟩
        rw [c2, if_pos rfl, m1, if_pos rfl, ib_or, ib_shl1 (by omega) (by omega), Int.toNat_natCast, c2, if_neg (by omega)]
        simp only [show 0 < c by omega, decide_true, Bool.true_and]
        exact Bool.or_comm _ _
      · have hc' : (c : Int) < σC.1 1 0 := by omega
        obtain ⟨q1, q2⟩ := h2.2 c hc'
        rw [m1, if_neg hcn]
        refine ⟨q1, fun d hd => ?_⟩
        rw [c2, if_neg hcn, q2 d hd]
        by_cases h0 : 0 < c
        · obtain ⟨a1, a2⟩ := q1 h0
          rw [c2, if_neg (by omega)]
        · simp [h0]
  · intro m hm
    rw [k1] at hm
    simp only [x3, x4, y2, y3, c10, k1]
    obtain ⟨q1, q2, q3, q4, q5⟩ := h3 m hm
    exact ⟨q1, ⟨q2.1, by omega⟩, q3, q4, q5⟩
  · intro c e hc he
    rw [c10] at hc
    simp only [x3, x4, k1]
    by_cases hcn : c = n
    · subst hcn
      have r : (clsC σC z).1 5 (c * 8 + e) = σC.1 5 (z * 8 + e) := by
        rw [c5, if_pos (by omega), show c * 8 + e - c * 8 = e by omega]
      rw [r]
      obtain ⟨p1, p2, p3, p4⟩ := h4 z e (by omega) he
      refine ⟨fun m hm hmc _ => absurd (h3 m hm).2.1.2 (by omega), fun _ => ?_, p3, fun h0 => ?_⟩
      · rw [if_neg (by omega), m1, if_pos rfl, Int.toNat_natCast, c5, if_neg (by omega)]
      · obtain ⟨q1, q2, q3, q4⟩ := p4 h0
        exact ⟨q1, q2, q3, by omega⟩
    · have hc' : (c : Int) < σC.1 1 0 := by omega
      have r : (clsC σC z).1 5 (c * 8 + e) = σC.1 5 (c * 8 + e) := by rw [c5, if_neg (by omega)]
      rw [r]
      obtain ⟨p1, p2, p3, p4⟩ := h4 c e hc' he
      refine ⟨p1, fun hno => ?_, p3, p4⟩
      rw [p2 hno]
      by_cases h0 : c = 0
      · rw [if_pos h0, if_pos h0]
      · obtain ⟨a1, a2⟩ := (h2.2 c hc').1 (by omega)
        rw [if_neg h0, if_neg h0, m1, if_neg hcn, c5, if_neg (by omega)]
  · intro m hm
    simp only [x6, x7, x13, x14, y4, y5, k1, k2]
    exact h5 m hm
  · intro s hs
    rw [k2] at hs
    simp only [x3, x6, x7, x8, x9, x10, x11, x12, x13, x14, y6, y7, y8, y9, y10, y11, y12, k1, c10]
    obtain ⟨q1, q2, q3, q4, q5⟩ := h6 s hs
    refine ⟨q1, q2, q3, q4, ?_⟩
    exact okS_mono (by omega) (Int.le_refl _) (fun _ _ h => h) q5
  · simp only [PR7, k3, k2, x8]
    exact h7
