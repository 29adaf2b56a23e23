/-! step: the new contents -/
theorem e_step {σ : Mm} {x k a b c d : Int} (h12 : σ.1 1 1 ≤ 12) : (0 ≤ x ∧ x < σ.1 1 1 ∧ okS (σ.1 1 0) (σ.1 1 1) (σ.1 3) k a b c d → f_X6_step x k a b c d σ = stRest x k a b c d σ) ∧ (¬ (0 ≤ x ∧ x < σ.1 1 1 ∧ okS (σ.1 1 0) (σ.1 1 1) (σ.1 3) k a b c d) → f_X6_step x k a b c d σ = some (-1, σ)) := by
  by_cases hk : 0 ≤ k ∧ k ≤ 16
  · have key : ∀ (_ : Decidable (okS (σ.1 1 0) (σ.1 1 1) (σ.1 3) k a b c d)), f_X6_step x k a b c d σ = if 0 ≤ x ∧ x < σ.1 1 1 then if okS (σ.1 1 0) (σ.1 1 1) (σ.1 3) k a b c d then stRest x k a b c d σ else some (-1, σ) else some (-1, σ) := by
      intro inst
      rcases (show k = 0 ∨ k = 1 ∨ k = 2 ∨ k = 3 ∨ k = 4 ∨ k = 5 ∨ k = 6 ∨ k = 7 ∨ k = 8 ∨ k = 9 ∨ k = 10 ∨ k = 11 ∨ k = 12 ∨ k = 13 ∨ k = 14 ∨ k = 15 ∨ k = 16 by omega) with rfl | rfl | rfl | rfl | rfl | rfl | rfl | rfl | rfl | rfl | rfl | rfl | rfl | rfl | rfl | rfl | rfl
      · exact e_step_0 h12
      · exact e_step_1 h12
      · exact e_step_2 h12
      · exact e_step_3 h12
      · exact e_step_4 h12
      · exact e_step_5 h12
      · exact e_step_6 h12
      · exact e_step_7 h12
      · exact e_step_8 h12
      · exact e_step_9 h12
      · exact e_step_10 h12
      · exact e_step_11 h12
      · exact e_step_12 h12
      · exact e_step_13 h12
      · exact e_step_14 h12
      · exact e_step_15 h12
      · exact e_step_16 h12
    rw [key (Classical.propDecidable _)]
    constructor
    · intro ⟨z1, z2, z3⟩
      rw [if_pos ⟨z1, z2⟩, if_pos z3]
    · intro z
      by_cases z1 : 0 ≤ x ∧ x < σ.1 1 1
      · rw [if_pos z1, if_neg (fun z3 => z ⟨z1.1, z1.2, z3⟩)]
      · rw [if_neg z1]
  · refine ⟨fun z => absurd z.2.2.1 hk, fun _ => ?_⟩
    unfold f_X6_step
    rw [e_isMethod, b_if]
    by_cases z1 : 0 ≤ x ∧ x < σ.1 1 1
    · rw [if_pos z1, e_isIn, b_if, if_neg (by omega)]
    · rw [if_neg z1]
theorem g_right {σC τ : Mm} (h1 : PR1 σC τ) (h3 : PR3 σC τ) {k a b c d : Int} (hk : 0 ≤ k ∧ k ≤ 16) : (okS (σC.1 1 0) (σC.1 1 1) (σC.1 3) k a b c d → f_X7_areRight k a b c d τ = some 1) ∧ (¬ okS (σC.1 1 0) (σC.1 1 1) (σC.1 3) k a b c d → f_X7_areRight k a b c d τ = some 0) := by
  obtain ⟨⟨b1, b2⟩, ⟨b3, b4⟩, -, -, g0, g2, -⟩ := id h1
  have hc : 1 ≤ τ.1 0 0 ∧ τ.1 0 0 ≤ 10 := by omega
  have hm : 0 ≤ τ.1 0 2 ∧ τ.1 0 2 ≤ 12 := by omega
  have hs : (0 ≤ c ∧ c < τ.1 0 2 ∧ τ.1 2 (Int.toNat c) < 0) ↔ (0 ≤ c ∧ c < σC.1 1 1 ∧ σC.1 3 (Int.toNat c) < 0) := by
    rw [g2]
    constructor
    · intro ⟨z1, z2, z3⟩
      obtain ⟨⟨q1, -⟩, -⟩ := h3 (Int.toNat c) (by omega)
      exact ⟨z1, z2, by omega⟩
    · intro ⟨z1, z2, z3⟩
      obtain ⟨⟨q1, -⟩, -⟩ := h3 (Int.toNat c) (by omega)
      exact ⟨z1, z2, by omega⟩
  have fin : ∀ (P : Prop) [Decidable P], f_X7_areRight k a b c d τ = some (b01 P) → (P ↔ okS (σC.1 1 0) (σC.1 1 1) (σC.1 3) k a b c d) → (okS (σC.1 1 0) (σC.1 1 1) (σC.1 3) k a b c d → f_X7_areRight k a b c d τ = some 1) ∧ (¬ okS (σC.1 1 0) (σC.1 1 1) (σC.1 3) k a b c d → f_X7_areRight k a b c d τ = some 0) := by
    intro P _ hf hp
    rw [hf]
    exact ⟨fun z => by rw [b01_t (hp.mpr z)], fun z => by rw [b01_f (fun q => z (hp.mp q))]⟩
  rcases (show k = 0 ∨ k = 1 ∨ k = 2 ∨ k = 3 ∨ k = 4 ∨ k = 5 ∨ k = 6 ∨ k = 7 ∨ k = 8 ∨ k = 9 ∨ k = 10 ∨ k = 11 ∨ k = 12 ∨ k = 13 ∨ k = 14 ∨ k = 15 ∨ k = 16 by omega) with rfl | rfl | rfl | rfl | rfl | rfl | rfl | rfl | rfl | rfl | rfl | rfl | rfl | rfl | rfl | rfl | rfl
  · exact fin _ (g_right_0 hc hm) (by rw [okS_0]; omega)
  · exact fin _ (g_right_1 hc hm) (by rw [okS_1]; omega)
  · exact fin _ (g_right_2 hc hm) (by rw [okS_2]; omega)
  · exact fin _ (g_right_3 hc hm) (by rw [okS_3]; omega)
  · exact fin _ (g_right_4 hc hm) (by rw [okS_4]; omega)
  · exact fin _ (g_right_5 hc hm) (by rw [okS_5]; omega)
  · exact fin _ (g_right_6 hc hm) (by rw [okS_6]; omega)
  · exact fin _ (g_right_7 hc hm) (by rw [okS_7]; omega)
  · exact fin _ (g_right_8 hc hm) (by rw [okS_8]; omega)
  · exact fin _ (g_right_9 hc hm) (by rw [okS_9]; omega)
  · exact fin _ (g_right_10 hc hm) (by rw [okS_10, hs]; omega)
  · exact fin _ (g_right_11 hc hm) (by rw [okS_11]; omega)
  · exact fin _ (g_right_12 hc hm) (by rw [okS_12])
  · exact fin _ (g_right_13 hc hm) (by rw [okS_13]; omega)
  · exact fin _ (g_right_14 hc hm) (by rw [okS_14]; omega)
  · exact fin _ (g_right_15 hc hm) (by rw [okS_15]; omega)
  · exact fin _ (g_right_16 hc hm) (by rw [okS_16]; omega)
def stC10 (σ : Mm) (m k : Int) : Mm := stI (stI (stI (stI (stI (stI σ 8 (Int.toNat (σ.1 1 2)) k) 13 (Int.toNat (σ.1 1 2)) m) 14 (Int.toNat (σ.1 1 2)) (σ.1 6 (Int.toNat m))) 7 (Int.toNat (m * 90 + σ.1 6 (Int.toNat m))) (σ.1 1 2)) 6 (Int.toNat m) (σ.1 6 (Int.toNat m) + 1)) 1 2 (σ.1 1 2 + 1)
def stC11 (σ : Mm) (m k : Int) : Mm := if 1 < k then stC10 σ m k else stI (stC10 σ m k) 1 3 (σ.1 1 3 + 1)
def stCF (σ : Mm) (m k a b c d : Int) : Mm := stI (stI (stI (stI (stI (stI (stC11 σ m k) 9 (Int.toNat (σ.1 1 2)) a) 10 (Int.toNat (σ.1 1 2)) b) 11 (Int.toNat (σ.1 1 2)) c) 12 (Int.toNat (σ.1 1 2)) d) 0 5 0) 0 6 0
theorem e_addStep {σ : Mm} {m k : Int} (hm : 0 ≤ m ∧ m < 12) (hs : 0 ≤ σ.1 1 2 ∧ σ.1 1 2 < 90) (hl : 0 ≤ σ.1 6 (Int.toNat m) ∧ σ.1 6 (Int.toNat m) < 90) (hk : 0 ≤ σ.1 1 3 ∧ σ.1 1 3 ≤ 55) : f_X3_addStep m k σ = some (σ.1 1 2, stC11 σ m k) := by
  unfold f_X3_addStep
  rw [ck_pos (by omega), ck_pos (by omega), bind_s, ck_pos (by omega), ck_pos (by omega), ck_pos (by omega)]
  have e1 : (stI (stI σ 8 (Int.toNat (σ.1 1 2)) k) 13 (Int.toNat (σ.1 1 2)) m).1 6 (Int.toNat m) = σ.1 6 (Int.toNat m) := by simp [stI_1]
  rw [e1]
  have e2 : (stI (stI (stI σ 8 (Int.toNat (σ.1 1 2)) k) 13 (Int.toNat (σ.1 1 2)) m) 14 (Int.toNat (σ.1 1 2)) (σ.1 6 (Int.toNat m))).1 6 (Int.toNat m) = σ.1 6 (Int.toNat m) := by simp [stI_1]
  rw [e2, ck_pos (by omega), bind_s]
  have e3 : (stI (stI (stI (stI σ 8 (Int.toNat (σ.1 1 2)) k) 13 (Int.toNat (σ.1 1 2)) m) 14 (Int.toNat (σ.1 1 2)) (σ.1 6 (Int.toNat m))) 7 (Int.toNat (m * 90 + σ.1 6 (Int.toNat m))) (σ.1 1 2)).1 6 (Int.toNat m) = σ.1 6 (Int.toNat m) := by simp [stI_1]
  rw [e3, ck_pos (by omega), ck_pos (by omega), ck_pos (by omega)]
  have e4 : (stI (stI (stI (stI (stI σ 8 (Int.toNat (σ.1 1 2)) k) 13 (Int.toNat (σ.1 1 2)) m) 14 (Int.toNat (σ.1 1 2)) (σ.1 6 (Int.toNat m))) 7 (Int.toNat (m * 90 + σ.1 6 (Int.toNat m))) (σ.1 1 2)) 6 (Int.toNat m) (σ.1 6 (Int.toNat m) + 1)).1 1 2 = σ.1 1 2 := by simp [stI_1]
  rw [e4, ck_pos (by omega), bind_s]
  show (if 1 < k then some (σ.1 1 2, stC10 σ m k) else ck (inR ((stC10 σ m k).1 1 3 + 1)) (some (σ.1 1 2, stI (stC10 σ m k) 1 3 ((stC10 σ m k).1 1 3 + 1)))) = _
  have e5 : (stC10 σ m k).1 1 3 = σ.1 1 3 := by simp [stC10, stI_1]
  unfold stC11
  by_cases h1 : 1 < k
  · rw [if_pos h1, if_pos h1]
  · rw [if_neg h1, if_neg h1, e5, ck_pos (by omega)]
theorem e_stRest {σ : Mm} {m k a b c d : Int} (hm : 0 ≤ m ∧ m < 12) (hs : 0 ≤ σ.1 1 2 ∧ σ.1 1 2 ≤ 90) (hl : 0 ≤ σ.1 6 (Int.toNat m) ∧ σ.1 6 (Int.toNat m) ≤ σ.1 1 2) (hk : 0 ≤ σ.1 1 3 ∧ σ.1 1 3 ≤ 55) : stRest m k a b c d σ = if σ.1 1 2 < 90 ∧ (1 < k ∨ σ.1 1 3 < 55) then some (σ.1 1 2, stCF σ m k a b c d) else some (-3, σ) := by
  unfold stRest f_X3_hasRoomFor
  have main : σ.1 1 2 < 90 → (f_X3_addStep m k σ).bind (fun r30 => (f_X3_tellNumbers r30.1 a b c d r30.2).bind (fun r33 => (f_X6_changed r30.1 r33).bind (fun r36 => some (r36.1, r36.2)))) = some (σ.1 1 2, stCF σ m k a b c d) := by
    intro h9
    rw [e_addStep hm ⟨hs.1, h9⟩ (by omega) hk, bind_s]
    show (f_X3_tellNumbers (σ.1 1 2) a b c d (stC11 σ m k)).bind _ = _
    unfold f_X3_tellNumbers
    rw [ck_pos (by omega), ck_pos (by omega), ck_pos (by omega), bind_s, ck_pos (by omega), bind_s]
    rfl
  by_cases h1 : 90 ≤ σ.1 1 2
  · rw [if_pos h1, bind_s, if_pos rfl, if_neg (by omega)]
  · rw [if_neg h1]
    by_cases h2 : 1 < k
    · rw [if_pos h2, bind_s, if_neg (by decide), main (by omega), if_pos (by omega)]
    · rw [if_neg h2]
      by_cases h3 : 55 ≤ σ.1 1 3
      · rw [if_pos h3, bind_s, if_pos rfl, if_neg (by omega)]
      · rw [if_neg h3, bind_s, if_neg (by decide), main (by omega), if_pos (by omega)]
