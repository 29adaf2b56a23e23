theorem st_within : St_within Inv := by
  intro x1 x2 σC σM _ _ _ _ hI
  obtain ⟨hP, ⟨i1, i2⟩, ⟨i3, i4⟩, i5, i6, i7⟩ := id hI
  unfold f_X6_within f_X7_within
  rw [e_isIn, g_in, bind_s, bind_s]
  by_cases h1 : 0 ≤ x1 ∧ x1 ≤ 2
  · rw [b01_t (show 0 ≤ x1 ∧ x1 < 3 by omega), b01_t h1, if_neg (show ¬ (1 : Int) = 0 by omega), if_neg (show ¬ (1 : Int) = 0 by omega), e_isIn, g_in, bind_s, bind_s]
    by_cases h2 : 0 ≤ x2 ∧ x2 ≤ 2
    · rw [b01_t (show 0 ≤ x2 ∧ x2 < 3 by omega), b01_t h2, if_neg (show ¬ (1 : Int) = 0 by omega), if_neg (show ¬ (1 : Int) = 0 by omega)]
      by_cases hf : σM.1 0 16 = 0
      · rw [if_pos (show σC.1 0 5 = 0 by omega), if_pos hf]
        exact ⟨_, σC, σM, rfl, rfl, hI⟩
      rw [if_neg (show ¬ σC.1 0 5 = 0 by omega), if_neg hf]
      have hFD := i6 (by omega)
      obtain ⟨-, hroot, -, h17, hst, h20, r0, σ0, σ9, a1, a2, a3, a4⟩ := id hFD
      obtain ⟨τ1, b1, b2, b3⟩ := bySteps hFD.1.1 (q := 30) (by omega)
      have hP1 : PR σC τ1 := PR_congr hP (fun _ _ _ => rfl) (fun k _ _ => by rw [b2.1]) (by rw [b2.1]) (by rw [b2.1]) (by rw [b2.1]) (by rw [b2.1])
      obtain ⟨r, σ1, τ2, w1, w2, w3, w4, w5, w6, w7, w8, w9, w10⟩ := find_sim (Or.inr rfl) hP1 (start := σC.1 0 4) (mode := x1) (depth := x2) (by rw [b2.1]; exact h17) h1 h2 hst
      obtain ⟨τ3, c1, c2, c3⟩ := bySteps w5.1 (q := 31) (by omega)
      have t3 : ∀ k, (1 ≤ k ∧ k ≤ 12) ∨ 21 ≤ k → τ3.1 k = σM.1 k := fun k q => by rw [c2.1, (w4.1 k q).1, b2.1]
      have z3 : ∀ j, j ≠ 18 → j ≠ 19 → j ≠ 21 → j ≠ 22 → j ≠ 23 → j ≠ 24 → j ≠ 29 → j ≠ 34 → j ≠ 35 → τ3.1 0 j = σM.1 0 j := fun j q1 q2 q3 q4 q5 q6 q7 q8 q9 => by rw [c2.1, w4.2 j q1 q2 q3 q4 q5 q6 q7 q8 q9, b2.1]
      have y20 : τ3.1 0 20 = σM.1 0 20 := z3 20 (by omega) (by omega) (by omega) (by omega) (by omega) (by omega) (by omega) (by omega) (by omega)
      have hP3 : PR σ0 τ3 := PR_congr hP a1 (fun k q1 q2 => t3 k (Or.inl ⟨q1, q2⟩)) (z3 0 (by omega) (by omega) (by omega) (by omega) (by omega) (by omega) (by omega) (by omega) (by omega)) (z3 2 (by omega) (by omega) (by omega) (by omega) (by omega) (by omega) (by omega) (by omega) (by omega)) (z3 7 (by omega) (by omega) (by omega) (by omega) (by omega) (by omega) (by omega) (by omega) (by omega)) (z3 8 (by omega) (by omega) (by omega) (by omega) (by omega) (by omega) (by omega) (by omega) (by omega))
      have h18 := hFD.1.1.2.1.2.2.2.1
      obtain ⟨r', σ', τ4, v1, v2, v3, v4, v5, v6, v7, v8, v9, v10⟩ := find_sim (o := 15) (Or.inl rfl) hP3 (start := σC.1 0 4) (mode := σM.1 0 18) (depth := σM.1 0 20) (by rw [z3 17 (by omega) (by omega) (by omega) (by omega) (by omega) (by omega) (by omega) (by omega) (by omega)]; exact h17) h18 h20 (by rw [a1 1 (by omega) (by omega)]; exact hst)
      have e9 : σ9 = σ' := (Prod.mk.inj (Option.some.inj (a2.symm.trans v1))).2
      subst e9
      have kr : ∀ k, k ≤ 28 → σ1.1 k = σC.1 k ∧ σ1.2 k = σC.2 k := fun k q => w3 k (Or.inl (by omega))
      have kh : ∀ k, 43 ≤ k → σ1.1 k = σC.1 k := fun k q => (w3 k (Or.inr (by omega))).1
      have pr9 : ∀ k, 1 ≤ k → k ≤ 14 → σ1.1 k = σ9.1 k := fun k q1 q2 => by rw [(kr k (by omega)).1, ← a1 k q1 q2]; exact (CF_prog (Or.inl rfl) v3 k q1 q2).symm
      have ag : AG 15 σ9 σ1 := ⟨pr9, fun k q1 q2 _ _ _ => (kr k (by omega)).1.trans (a3 k q1 (by omega)), fun k q1 q2 q3 => (kr k (by omega)).2.trans (a4 k q1 (by omega) (by omega))⟩
      have ag' : AG 15 σC σ1 := ⟨fun k q1 q2 => (kr k (by omega)).1, fun k q1 q2 _ _ _ => (kr k (by omega)).1, fun k q1 q2 q3 => (kr k (by omega)).2⟩
      have fd : FdEnd 15 σ1 τ4 := FdEnd_gen v5 ag MG.rf
      have h15 : RF 15 σ1 σM := RF_gen hFD.1.1 ag' MG.rf
      have h29 : RF 29 σ1 τ2 := w5.1
      have t4 : ∀ k, 21 ≤ k → τ4.1 k = σM.1 k := fun k q => by rw [(v4.1 k (Or.inr q)).1]; exact t3 k (Or.inr q)
      have z4 : ∀ j, j ≠ 18 → j ≠ 19 → j ≠ 21 → j ≠ 22 → j ≠ 23 → j ≠ 24 → j ≠ 29 → j ≠ 34 → j ≠ 35 → τ4.1 0 j = σM.1 0 j := fun j q1 q2 q3 q4 q5 q6 q7 q8 q9 => by rw [v4.2 j q1 q2 q3 q4 q5 q6 q7 q8 q9]; exact z3 j q1 q2 q3 q4 q5 q6 q7 q8 q9
      have x20 : τ4.1 0 20 = σM.1 0 20 := z4 20 (by omega) (by omega) (by omega) (by omega) (by omega) (by omega) (by omega) (by omega) (by omega)
      have x16 : τ4.1 0 16 = σM.1 0 16 := z4 16 (by omega) (by omega) (by omega) (by omega) (by omega) (by omega) (by omega) (by omega) (by omega)
      have x37 : τ4.1 0 37 = σM.1 0 37 := z4 37 (by omega) (by omega) (by omega) (by omega) (by omega) (by omega) (by omega) (by omega) (by omega)
      have e31 : τ4.2 31 = τ3.2 31 := (v4.1 31 (Or.inr (by omega))).2
      have e30 : τ4.2 30 = τ1.2 30 := by rw [(v4.1 30 (Or.inr (by omega))).2, c2.2 30 (by omega), (w4.1 30 (Or.inr (by omega))).2]
      have k0 : σ1.1 0 = σC.1 0 := (kr 0 (by omega)).1
      have inv : Inv σ1 τ4 := by
        refine ⟨fd.1.1, ⟨by rw [k0, x16]; exact i1, by rw [x16]; exact i2⟩, ⟨by rw [k0, x37]; exact i3, by rw [x37]; exact i4⟩, fd.1.2.1.1.2.2.2.2.2, fun _ => ⟨fd, by rw [k0]; exact v6, fun K hK i hi => ?_, by rw [k0]; exact v10, by rw [k0, (kr 1 (by omega)).1]; exact hst, by rw [x20]; exact h20, r0, σ0, σ9, fun k q1 q2 => by rw [a1 k q1 q2, (kr k (by omega)).1], by rw [k0, v9, x20]; exact a2, fun k q1 q2 => by rw [(kr k (by omega)).1]; exact a3 k q1 q2, fun k q1 q2 q3 => by rw [(kr k (by omega)).2]; exact a4 k q1 q2 q3⟩, fun z => ?_⟩
        · rw [ldN_prog pr9, onB_prog pr9, (kr (15 + 5) (by omega)).1, (kr (15 + 7) (by omega)).1, a3 (15 + 5) (by omega) (by omega), a3 (15 + 7) (by omega) (by omega)]
          exact v7 K hK i hi
        · rw [x37] at z
          obtain ⟨y1, y2⟩ := i7 z
          exact ⟨by rw [x16]; exact y1, RN_gen y2 (by rw [(kr 1 (by omega)).1]) (kr 8 (by omega)).1 (kr 10 (by omega)).1 (fun k q1 q2 => kh k (by omega)) (fun k q1 q2 => t4 k (by omega)) (fun j q1 q2 => z4 j (by omega) (by omega) (by omega) (by omega) (by omega) (by omega) (by omega) (by omega) (by omega))⟩
      have h11 := h15.1.1.2.1
      obtain ⟨M, hM⟩ : ∃ M : Nat, σ1.1 1 1 = M := ⟨Int.toNat (σ1.1 1 1), by omega⟩
      have key := wi_key (σ := τ4) h29 h15 hM (fun j i hj => by rw [e31]; exact c3 j i hj) (fun j i hj => by rw [e30]; exact b3 j i hj)
      rw [w1, bind_s, b1, bind_s, w2, bind_s, c1, bind_s, y20, v2, bind_s]
      have m44 := wi44 h29 h15 hM M 2000 0 (by omega) (by omega)
      have m72 := wi72 τ4 144 2000 0 (by omega) (by omega)
      rcases m44 with ⟨q1, q2⟩ | ⟨q1, q2⟩
      · rcases m72 with ⟨q3, q4⟩ | ⟨q3, q4⟩
        · exact ⟨1, σ1, τ4, q1, q3, inv⟩
        · exact absurd (key.mpr q2) q4
      · rcases m72 with ⟨q3, q4⟩ | ⟨q3, q4⟩
        · exact absurd (key.mp q4) q2
        · exact ⟨0, σ1, τ4, q1, q3, inv⟩
    · rw [b01_f (show ¬ (0 ≤ x2 ∧ x2 < 3) by omega), b01_f h2, if_pos rfl, if_pos rfl]
      exact ⟨_, σC, σM, rfl, rfl, hI⟩
  · rw [b01_f (show ¬ (0 ≤ x1 ∧ x1 < 3) by omega), b01_f h1, if_pos rfl, if_pos rfl]
    exact ⟨_, σC, σM, rfl, rfl, hI⟩
