/-! a turn, a run -/
theorem rn_all {A B σC σM : Mm} {t s n : Nat} {e d H : Int} (hS : FDn A B) (h : RR A B σC σM (t + 1) e d H) (hH : H ≤ 9000) (hd : d + 1 ≤ e) (he : e ≤ 300) (ha : At A B σM t s n) : Rs A B (f_X4_doStep s σC) (f_X7_does s (A.2 43 5) σM) t e H := by
  have hk := (PR_okS hS.1.1.1 ha.2.1).1
  rcases (show A.1 8 s = 0 ∨ A.1 8 s = 1 ∨ A.1 8 s = 2 ∨ A.1 8 s = 3 ∨ A.1 8 s = 4 ∨ A.1 8 s = 5 ∨ A.1 8 s = 6 ∨ A.1 8 s = 7 ∨ A.1 8 s = 8 ∨ A.1 8 s = 9 ∨ A.1 8 s = 10 ∨ A.1 8 s = 11 ∨ A.1 8 s = 12 ∨ A.1 8 s = 13 ∨ A.1 8 s = 14 ∨ A.1 8 s = 15 ∨ A.1 8 s = 16 by omega) with q | q | q | q | q | q | q | q | q | q | q | q | q | q | q | q | q
  · exact rn0 hS h hH hd he ha q
  · exact rn1 hS h hH hd he ha q
  · exact rn2 hS h hH hd he ha q
  · exact rn3 hS h hH hd he ha q
  · exact rn4 hS h hH hd he ha q
  · exact rn5 hS h hH hd he ha q
  · exact rn6 hS h hH hd he ha q
  · exact rn7 hS h hH hd he ha q
  · exact rn8 hS h hH hd he ha q
  · exact rn9 hS h hH hd he ha q
  · exact rn10 hS h hH hd he ha q
  · exact rn11 hS h hH hd he ha q
  · exact rn12 hS h hd he ha q
  · exact rn13 hS h hH hd he ha q
  · exact rn14 hS h hH hd he ha q
  · exact rn15 hS h hH hd he ha q
  · exact rn16 hS h hd ha q
theorem turn_sim {A B σC σM : Mm} {t : Nat} {e H L : Int} (hS : FDn A B) (hL : A.1 43 6 = L) (h300 : L ≤ 300) (h : RR A B σC σM (t + 1) e e H) (h0 : 0 ≤ e) (he : e ≤ L) (hH : H ≤ 9000) : ∃ σC' σM', f_X4_takeTurn σC = some σC' ∧ (∀ g, f_X7_run_109 (g + 1) (A.2 43 5) L σM = f_X7_run_109 g (A.2 43 5) L σM') ∧ ((∃ (t' : Nat) (e' : Int), RR A B σC' σM' (t' + 1) e' e' (H + 3) ∧ 0 ≤ e' ∧ e' ≤ L ∧ 2 * (L - e') + t' < 2 * (L - e) + t) ∨ RE A B σC' σM') := by
  obtain ⟨k1, k2, k3⟩ := h.2.1
  obtain ⟨n1, n2, n3⟩ := nd_eq h (f := t) (by omega)
  obtain ⟨b1, b2, b3, b4, b5⟩ := h.2.2.2.1 t (by omega)
  obtain ⟨-, ⟨t1, t1'⟩, ⟨t2, t2'⟩, -⟩ := h.2.2.1
  have hPC : PR σC σM := (FD_run hS h.1.1 h.1.2).1.1.1
  have hPA : PR A σM := PR_gen hS.1.1.1 (fun _ _ _ => rfl) (MX_MG h.1.2)
  have hpr : ∀ k, 1 ≤ k → k ≤ 14 → σC.1 k = A.1 k := fun k _ _ => CX_row h.1.1 (by omega)
  obtain ⟨-, r13, -⟩ := hS.1.1.2.2.1 (nd σM t) n3
  obtain ⟨m, hm⟩ : ∃ m : Nat, B.1 13 (nd σM t) = m := ⟨Int.toNat (B.1 13 (nd σM t)), by omega⟩
  have h11 := hS.1.1.1.1.2.1
  have h12 := hS.1.1.1.1.2.2.1
  have lo := (FD_low hS).2.2.1
  obtain ⟨p, hp⟩ : ∃ p : Nat, σM.1 27 t = p := ⟨Int.toNat (σM.1 27 t), by omega⟩
  have tm : f_X1_topMethod σC = some (m : Int) := by
    unfold f_X1_topMethod
    rw [ck_pos (by omega), show Int.toNat (σC.1 44 0 - 1) = t by omega, b3, hm]
  have tn : f_X1_topNext σC = some (p : Int) := by
    unfold f_X1_topNext
    rw [ck_pos (by omega), show Int.toNat (σC.1 44 0 - 1) = t by omega, b4, hp]
  have e13 : σM.1 13 (nd σM t) = (m : Int) := by rw [h.1.2.1 13 _ (by omega)]; exact hm
  obtain ⟨l0, -, l9⟩ := hPA.2.2.2.2.1 m (by omega)
  have l4 := (l9 (by omega)).1
  have c6 : σC.1 43 6 = L := by rw [h.1.1.1 43 6 (by omega) (by omega)]; exact hL
  by_cases hpl : (p : Int) < A.1 6 m
  · obtain ⟨q1, q2, q3, q4, q5, q6, q7⟩ := PR_ln hPA (m := m) (p := p) (by omega) hpl
    have st : f_X3_stepAt m p σC = some ((ln A m p : Nat) : Int) := by
      have st := e_stepAt hPC (m := m) (p := p) (by rw [hpr 1 (by omega) (by omega)]; omega) (by rw [hpr 6 (by omega) (by omega)]; exact hpl)
      unfold ln at st ⊢
      rw [hpr 7 (by omega) (by omega)] at st
      exact st
    have cl := hS.1.2.2.2.2.2 (nd σM t) p n3 (by rw [hm, Int.toNat_natCast]; exact hpl)
    rw [hm, Int.toNat_natCast] at cl
    have e3 : Int.toNat (90 * (m : Int) + p) = m * 90 + p := by omega
    generalize ln A m p = s at *
    have s90 : s < 90 := by omega
    by_cases heL : e < L
    · have hR := RR_next (RR_done h) (p := (p : Int) + 1) (by omega)
      have hat : At A B (stI (stI σM 0 39 (e + 1)) 27 t ((p : Int) + 1)) t s (nd σM t) := ⟨by unfold nd; rw [stI_1, if_neg (by omega), stI_1, if_neg (by omega)], q1, by rw [q4, hm], by rw [stI_1, if_pos ⟨rfl, rfl⟩, q5], cl⟩
      obtain ⟨σC', σM', w1, w2, w3⟩ := rn_all hS hR hH (by omega) (by omega) hat
      refine ⟨σC', σM', ?_, fun g => ?_, ?_⟩
      · have tn' : f_X1_topNext (stI σC 49 1 (e + 1)) = some (p : Int) := tn
        have go : f_X1_goOnAt ((p : Int) + 1) (stI σC 49 1 (e + 1)) = some (stI (stI σC 49 1 (e + 1)) 47 t ((p : Int) + 1)) := by
          have e44 : (stI σC 49 1 (e + 1)).1 44 0 = t + 1 := by rw [stI_1, if_neg (by omega)]; omega
          unfold f_X1_goOnAt
          rw [e44, ck_pos (by omega), show Int.toNat ((t : Int) + 1 - 1) = t by omega]
        unfold f_X4_takeTurn
        rw [tm, bind_s, tn, bind_s, st, bind_s, if_pos (by omega), ck_pos (by omega), c6, t2, if_pos heL, ck_pos (by omega), ck_pos (by omega), ck_pos (by omega), tn', bind_s, ck_pos (by omega), go, bind_s, w1, bind_s]
      · have e52 : (stI σM 0 39 (e + 1)).1 0 52 = t + 1 := by rw [stI_1, if_neg (by omega)]; omega
        have e27 : (stI σM 0 39 (e + 1)).1 27 t = p := by rw [stI_1, if_neg (by omega)]; exact hp
        have e5 : (stI (stI σM 0 39 (e + 1)) 27 t ((p : Int) + 1)).1 5 (m * 90 + p) = (s : Int) := by rw [stI_1, if_neg (by omega), stI_1, if_neg (by omega)]; exact q3
        rw [f_X7_run_109, if_neg (by omega), if_pos t1', ck_pos (by omega), show Int.toNat (σM.1 0 52 - 1) = t by omega, n1, ck_pos (by omega), ck_pos (by omega), Int.toNat_natCast, e13, ck_pos (by omega), Int.toNat_natCast, hp, l4, if_pos hpl, if_neg (by omega), t2', ck_pos (by omega), e52, ck_pos (by omega), show Int.toNat ((t : Int) + 1 - 1) = t by omega, e27, ck_pos (by omega), ck_pos (by omega), bind_s, ck_pos (by omega), e3, e5, w2, bind_s]
      · rcases w3 with ⟨t', w3, w4⟩ | w3
        · exact Or.inl ⟨t', e + 1, w4, by omega, by omega, by omega⟩
        · exact Or.inr w3
    · obtain rfl : e = L := by omega
      have q3' : σM.1 5 (m * 90 + p) = (s : Int) := q3
      refine ⟨_, _, ?_, fun g => ?_, Or.inr (RE_fail h (by omega) (x := 9) (by omega) (s : Int))⟩
      · unfold f_X4_takeTurn f_X4_fail
        rw [tm, bind_s, tn, bind_s, st, bind_s, if_pos (by omega), ck_pos (by omega), c6, t2, if_neg heL, ck_pos (by omega), ck_pos (by omega), bind_s]
      · rw [f_X7_run_109, if_neg (by omega), if_pos t1', ck_pos (by omega), show Int.toNat (σM.1 0 52 - 1) = t by omega, n1, ck_pos (by omega), ck_pos (by omega), Int.toNat_natCast, e13, ck_pos (by omega), Int.toNat_natCast, hp, l4, if_pos hpl, if_pos t2', ck_pos (by omega), e3, q3']
        rfl
  · have st : f_X3_stepAt m p σC = some (-1) := by
      unfold f_X3_stepAt
      rw [if_neg (by omega), ck_pos (by omega), Int.toNat_natCast, hpr 6 (by omega) (by omega), if_pos (by omega)]
    obtain ⟨σC', σM', w1, w2, w3⟩ := leave_sim hS h hH (by omega) (by omega) (RR_n h) Snd_n
    refine ⟨σC', σM', ?_, fun g => ?_, ?_⟩
    · unfold f_X4_takeTurn
      rw [tm, bind_s, tn, bind_s, st, bind_s, if_neg (by omega), w1, bind_s]
    · rw [f_X7_run_109, if_neg (by omega), if_pos t1', ck_pos (by omega), show Int.toNat (σM.1 0 52 - 1) = t by omega, n1, ck_pos (by omega), ck_pos (by omega), Int.toNat_natCast, e13, ck_pos (by omega), Int.toNat_natCast, hp, l4, if_neg hpl, w2, bind_s]
    · rcases w3 with ⟨w3, w4⟩ | w3
      · obtain ⟨u, rfl⟩ : ∃ u, t = u + 1 := ⟨t - 1, by omega⟩
        exact Or.inl ⟨u, e, w4, h0, he, by omega⟩
      · exact Or.inr w3
theorem run_loop {A B : Mm} {L : Int} (hS : FDn A B) (hL : A.1 43 6 = L) (h300 : L ≤ 300) : ∀ (k f g j t : Nat) (e H : Int) (σC σM : Mm), RR A B σC σM (t + 1) e e H → 0 ≤ e → e ≤ L → 2 * (L - e) + t < k → H + 3 * k ≤ 9000 → k < f → k < g → j + k < 3000 → ∃ r σC' σM', f_X4_go_70 f j σC = some (r, σC') ∧ f_X7_run_109 g (A.2 43 5) L σM = some (r, σM') ∧ RE A B σC' σM' := by
  intro k
  induction k with
  | zero =>
    intro f g j t e H σC σM h h0 he hk
    omega
  | succ k ih =>
    intro f g j t e H σC σM h h0 he hk hH hf hg hj
    obtain ⟨f, rfl⟩ : ∃ q, f = q + 1 := ⟨f - 1, by omega⟩
    obtain ⟨g, rfl⟩ : ∃ q, g = q + 1 := ⟨g - 1, by omega⟩
    obtain ⟨σC', σM', w1, w2, w3⟩ := turn_sim hS hL h300 h h0 he (by omega)
    have g1 : σC.1 43 7 = 1 := h.2.2.1.2.2.2.2.2.2.2.2.2.2
    rw [f_X4_go_70, if_neg (by omega), if_neg (by omega), w1, bind_s, ck_pos (by omega), w2 g, show (j : Int) + 1 = ((j + 1 : Nat) : Int) by omega]
    rcases w3 with ⟨t', e', v1, v2, v3, v4⟩ | w3
    · exact ih f g (j + 1) t' e' (H + 3) σC' σM' v1 v2 v3 (by omega) (by omega) (by omega) (by omega) (by omega)
    · obtain ⟨f, rfl⟩ : ∃ q, f = q + 1 := ⟨f - 1, by omega⟩
      obtain ⟨g, rfl⟩ : ∃ q, g = q + 1 := ⟨g - 1, by omega⟩
      have r0 : σC'.1 49 0 = σM'.1 0 38 := w3.2.1.1.2.1
      refine ⟨σC'.1 49 0, σC', σM', ?_, ?_, w3⟩
      · rw [f_X4_go_70, if_neg (by omega), if_pos w3.2.2.1, ck_pos (by omega)]
      · rw [f_X7_run_109, r0]
        rcases w3.2.2.2 with z | z
        · rw [if_pos z]
        · by_cases y : σM'.1 0 52 ≤ 0
          · rw [if_pos y]
          · rw [if_neg y, if_neg z]
theorem e_fillJ5 {q N : Nat} {v : Int} (hN : N ≤ 1000) : ∀ (k f i : Nat) (σ : Mm), i + k = N → k < f → ∃ σ', f_J7_fill_53178_5 N q f v i N σ = some σ' ∧ σ'.2 = σ.2 ∧ (∀ a b, ¬ (a = q ∧ i ≤ b ∧ b < N) → σ'.1 a b = σ.1 a b) ∧ ∀ b, i ≤ b → b < N → σ'.1 q b = v := by
  intro k
  induction k with
  | zero =>
    intro f i σ hi hf
    obtain ⟨f, rfl⟩ : ∃ g, f = g + 1 := ⟨f - 1, by omega⟩
    rw [f_J7_fill_53178_5, if_pos (by omega)]
    exact ⟨σ, rfl, rfl, fun _ _ _ => rfl, fun b h1 h2 => by omega⟩
  | succ k ih =>
    intro f i σ hi hf
    obtain ⟨f, rfl⟩ : ∃ g, f = g + 1 := ⟨f - 1, by omega⟩
    rw [f_J7_fill_53178_5, if_neg (by omega), ck_pos (by omega), ck_pos (by omega), Int.toNat_natCast, show (i : Int) + 1 = ((i + 1 : Nat) : Int) by omega]
    obtain ⟨σ', w1, w2, w3, w4⟩ := ih f (i + 1) (stI σ q i v) (by omega) (by omega)
    refine ⟨σ', w1, w2, fun a b hab => ?_, fun b h1 h2 => ?_⟩
    · rw [w3 a b (by omega), stI_1, if_neg (by omega)]
    · by_cases hb : b = i
      · rw [w3 q b (by omega), stI_1, if_pos ⟨rfl, hb⟩]
      · exact w4 b (by omega) h2
theorem g_run82 {x1 : Int64} {x3 : Int} : ∀ (k f i : Nat) (σ : Mm), i + k = 4 → k < f → ∃ σ', f_X7_run_82 f x1 x3 i σ = (f_X7_begins 0 σ').bind (fun r => f_X7_run_109 2000 x1 x3 r.2) ∧ σ'.2 = σ.2 ∧ (∀ a b, ¬ (a = 25 ∧ i ≤ b ∧ b < 4) → σ'.1 a b = σ.1 a b) ∧ ∀ b, i ≤ b → b < 4 → σ'.1 25 b = -1 := by
  intro k
  induction k with
  | zero =>
    intro f i σ hi hf
    obtain ⟨f, rfl⟩ : ∃ g, f = g + 1 := ⟨f - 1, by omega⟩
    rw [f_X7_run_82, if_pos (by omega)]
    exact ⟨σ, rfl, rfl, fun _ _ _ => rfl, fun b h1 h2 => by omega⟩
  | succ k ih =>
    intro f i σ hi hf
    obtain ⟨f, rfl⟩ : ∃ g, f = g + 1 := ⟨f - 1, by omega⟩
    rw [f_X7_run_82, if_neg (by omega), ck_pos (by omega), ck_pos (by omega), Int.toNat_natCast, show (i : Int) + 1 = ((i + 1 : Nat) : Int) by omega]
    obtain ⟨σ', w1, w2, w3, w4⟩ := ih f (i + 1) (stI σ 25 i (-1)) (by omega) (by omega)
    refine ⟨σ', w1, w2, fun a b hab => ?_, fun b h1 h2 => ?_⟩
    · rw [w3 a b (by omega), stI_1, if_neg (by omega)]
    · by_cases hb : b = i
      · rw [w3 25 b (by omega), stI_1, if_pos ⟨rfl, hb⟩]
      · exact w4 b (by omega) h2
theorem go_start (σ : Mm) (x1 : Int64) (x3 : Int) (s : Int) : ∃ A, f_X4_go s x1 x3 σ = (f_X4_enter s 0 (-9) (-9) A).bind (fun r => f_X4_go_70 2000 0 r) ∧ A.2 43 5 = x1 ∧ A.1 43 6 = x3 ∧ A.1 43 7 = 1 ∧ A.1 44 0 = 0 ∧ A.1 50 1 = 0 ∧ (∀ g, g < 4 → A.1 55 g = -9) ∧ (∀ j, j < 9 → A.1 49 j = if j = 6 ∨ j = 7 then -9 else 0) ∧ (∀ k, k ≤ 42 → A.1 k = σ.1 k ∧ A.2 k = σ.2 k) := by
  obtain ⟨r10, v1, v2, v3, v4⟩ := e_fillJ5 (q := 55) (N := 4) (v := -9) (by omega) 4 2000 0 (stI σ 50 1 0) (by omega) (by omega)
  obtain ⟨r13, w1, w2, w3, w4⟩ := e_fillJ5 (q := 49) (N := 9) (v := 0) (by omega) 9 2000 0 r10 (by omega) (by omega)
  refine ⟨stI (stI (stI (stL (stI (stI r13 49 6 (-9)) 49 7 (-9)) 43 5 x1) 43 6 x3) 44 0 0) 43 7 1, ?_, ?_, ?_, ?_, ?_, ?_, fun g hg => ?_, fun j hj => ?_, fun k hk => ⟨?_, ?_⟩⟩
  · unfold f_X4_go f_X2_clear f_J7_fill_53178
    have v1' : f_J7_fill_53178_5 4 55 2000 (-9) 0 ((4 : Nat) : Int) (stI σ 50 1 0) = some r10 := v1
    have w1' : f_J7_fill_53178_5 9 49 2000 0 0 ((9 : Nat) : Int) r10 = some r13 := w1
    rw [v1', bind_s, bind_s, w1', bind_s, ck_pos (by omega), ck_pos (by omega), bind_s]
  · rw [stI_2, stI_2, stI_2, stL_2, if_pos ⟨rfl, rfl⟩]
  · rw [stI_1, if_neg (by omega), stI_1, if_neg (by omega), stI_1, if_pos ⟨rfl, rfl⟩]
  · rw [stI_1, if_pos ⟨rfl, rfl⟩]
  · rw [stI_1, if_neg (by omega), stI_1, if_pos ⟨rfl, rfl⟩]
  · rw [stI_1, if_neg (by omega), stI_1, if_neg (by omega), stI_1, if_neg (by omega), stL_1, stI_1, if_neg (by omega), stI_1, if_neg (by omega), w3 50 1 (by omega), v3 50 1 (by omega), stI_1, if_pos ⟨rfl, rfl⟩]
  · rw [stI_1, if_neg (by omega), stI_1, if_neg (by omega), stI_1, if_neg (by omega), stL_1, stI_1, if_neg (by omega), stI_1, if_neg (by omega), w3 55 g (by omega), v4 g (by omega) hg]
  · rw [stI_1, if_neg (by omega), stI_1, if_neg (by omega), stI_1, if_neg (by omega), stL_1, stI_1, stI_1, w4 j (by omega) hj]
    by_cases j7 : j = 7
    · rw [if_pos ⟨rfl, j7⟩, if_pos (Or.inr j7)]
    · by_cases j6 : j = 6
      · rw [if_neg (by omega), if_pos ⟨rfl, j6⟩, if_pos (Or.inl j6)]
      · rw [if_neg (by omega), if_neg (by omega), if_neg (by omega)]
  · funext i
    rw [stI_1, if_neg (by omega), stI_1, if_neg (by omega), stI_1, if_neg (by omega), stL_1, stI_1, if_neg (by omega), stI_1, if_neg (by omega), w3 k i (by omega), v3 k i (by omega), stI_1, if_neg (by omega)]
  · funext i
    rw [stI_2, stI_2, stI_2, stL_2, if_neg (by omega), stI_2, stI_2, w2, v2, stI_2]
theorem run_start (σ : Mm) (x1 : Int64) (x3 : Int) (h : ¬ σ.1 0 16 = 0) (h3 : 1 ≤ x3 ∧ x3 ≤ 300) : ∃ B, f_X7_run x1 x3 σ = (f_X7_begins 0 B).bind (fun r => f_X7_run_109 2000 x1 x3 r.2) ∧ B.2 = σ.2 ∧ (∀ k i, ¬ (k = 25 ∨ (k = 0 ∧ (37 ≤ i ∧ i ≤ 46 ∨ i = 52))) → B.1 k i = σ.1 k i) ∧ (∀ g, g < 4 → B.1 25 g = -1) ∧ B.1 0 37 = 1 ∧ B.1 0 38 = 0 ∧ B.1 0 39 = 0 ∧ B.1 0 40 = 0 ∧ B.1 0 41 = -9 ∧ B.1 0 42 = -1 ∧ B.1 0 43 = 0 ∧ B.1 0 44 = 0 ∧ B.1 0 45 = 0 ∧ B.1 0 46 = 0 ∧ B.1 0 52 = 0 := by
  unfold f_X7_run
  rw [g_in, bind_s, b01_t h3, if_neg (by omega), if_neg h, bind_s, bind_s]
  obtain ⟨B, w1, w2, w3, w4⟩ := g_run82 (x1 := x1) (x3 := x3) 4 2000 0 (stI (stI (stI (stI (stI (stI (stI (stI (stI (stI (stI σ 0 37 1) 0 38 0) 0 39 0) 0 40 0) 0 41 (-9)) 0 42 (-1)) 0 43 0) 0 44 0) 0 45 0) 0 46 0) 0 52 0) (by omega) (by omega)
  refine ⟨B, w1, w2, fun k i hk => ?_, fun g hg => w4 g (by omega) hg, ?_, ?_, ?_, ?_, ?_, ?_, ?_, ?_, ?_, ?_, ?_⟩
  · rw [w3 k i (by omega), stI_1, if_neg (by omega), stI_1, if_neg (by omega), stI_1, if_neg (by omega), stI_1, if_neg (by omega), stI_1, if_neg (by omega), stI_1, if_neg (by omega), stI_1, if_neg (by omega), stI_1, if_neg (by omega), stI_1, if_neg (by omega), stI_1, if_neg (by omega), stI_1, if_neg (by omega)]
  · rw [w3 0 37 (by omega)]; rfl
  · rw [w3 0 38 (by omega)]; rfl
  · rw [w3 0 39 (by omega)]; rfl
  · rw [w3 0 40 (by omega)]; rfl
  · rw [w3 0 41 (by omega)]; rfl
  · rw [w3 0 42 (by omega)]; rfl
  · rw [w3 0 43 (by omega)]; rfl
  · rw [w3 0 44 (by omega)]; rfl
  · rw [w3 0 45 (by omega)]; rfl
  · rw [w3 0 46 (by omega)]; rfl
  · rw [w3 0 52 (by omega)]; rfl
theorem st_run : St_run Inv := by
  intro x1 x3 σC σM _ _ _ hI
  obtain ⟨hP, ⟨i1, i2⟩, ⟨i3, i4⟩, i5, i6, i7⟩ := id hI
  by_cases h3 : 1 ≤ x3 ∧ x3 ≤ 300
  · by_cases hf : σM.1 0 16 = 0
    · refine ⟨-2, σC, σM, ?_, ?_, hI⟩
      · unfold f_X6_run
        rw [if_neg (by omega), if_pos h3.2, if_pos (by omega)]
      · unfold f_X7_run
        rw [g_in, bind_s, b01_t h3, if_neg (by omega), if_pos hf]
    have hFD := i6 (by omega)
    obtain ⟨A, a1, a2, a3, a4, a5, a6, a7, a8, a9⟩ := go_start (stI σC 0 6 1) x1 x3 (σC.1 0 4)
    obtain ⟨B, b1, b2, b3, b4, b5, b6, b7, b8, b9, b10, b11, b12, b13, b14, b15⟩ := run_start σM x1 x3 hf h3
    have kc : KC σC A := ⟨fun k q1 q2 => by rw [(a9 k (by omega)).1]; funext i; rw [stI_1, if_neg (by omega)], fun k q1 q2 q3 => by rw [(a9 k (by omega)).2]; rfl, by rw [(a9 0 (by omega)).1, stI_1, if_neg (by omega)]⟩
    have mg : MG σM B := ⟨fun k q1 q2 => ⟨by funext i; exact b3 k i (by omega), by rw [b2]⟩, fun j q1 q2 q3 => b3 0 j (by omega)⟩
    have hS : FDn A B := FDn_gen hFD kc mg (b3 0 20 (by omega))
    have hR : RR A B A B 0 0 0 0 := by
      refine ⟨⟨CX.rf, MX.rf⟩, ⟨a5, b15, by omega⟩, ⟨⟨by omega, by omega, by omega⟩, ⟨a8 0 (by omega), b6⟩, ⟨a8 1 (by omega), b7⟩, ?_, ⟨?_, by omega, by omega⟩, ⟨a8 4 (by omega), b13⟩, ?_, ?_, ⟨a8 7 (by omega), b10⟩, ⟨?_, by omega, by omega⟩, a4⟩, fun f hf => by omega, fun f v hf => by omega, fun f hf => by omega, fun i hi => by omega, fun i p hi => by omega, fun g hg => ?_⟩
      · rw [a8 2 (by omega), b14]; rfl
      · rw [a8 3 (by omega), b12]; rfl
      · rw [a8 5 (by omega), b8]; rfl
      · rw [a8 6 (by omega), b9]; rfl
      · rw [a8 8 (by omega), b11]; rfl
      · unfold GB
        rw [a7 g hg, b4 g hg]
        exact ⟨⟨by omega, rfl⟩, Snd_n⟩
    have rt := hS.2.1
    have e0 : σC.1 0 4 = B.1 13 0 := by rw [← kc.2.2]; exact rt.2.1.symm
    obtain ⟨σ1, τ0, τ1, τ2, w1, w2, w3, w4, w5, w6, w7⟩ := enter_sim hS hR (by omega) (by omega) (by omega) (n := 0) (by have := rt.1; omega) (fun f hf => by omega) (c1 := -9) (m1 := -1) (RR_n hR) Snd_n (c2 := -9) (m2 := -1) (RR_n hR) Snd_n
    have t1 := w6 rfl
    have t2 := w7 rfl
    subst t1
    subst t2
    obtain ⟨r, σ', τ', v1, v2, v3⟩ := run_loop hS a3 h3.2 1000 2000 2000 0 0 0 (0 + 2) σ1 τ2 w5 (by omega) (by omega) (by omega) (by omega) (by omega) (by omega) (by omega)
    rw [a2] at v2
    obtain ⟨⟨cx, mx⟩, rn, -⟩ := v3
    have hf' := FD_run hS cx mx
    have c5 : σ'.1 0 5 = σC.1 0 5 := by rw [cx.1 0 5 (by omega) (by omega), (a9 0 (by omega)).1, stI_1, if_neg (by omega)]
    have c6 : σ'.1 0 6 = 1 := by rw [cx.1 0 6 (by omega) (by omega), (a9 0 (by omega)).1, stI_1, if_pos ⟨rfl, rfl⟩]
    have m16 : τ'.1 0 16 = σM.1 0 16 := by rw [mx.1 0 16 (by omega), b3 0 16 (by omega)]
    have m37 : τ'.1 0 37 = 1 := by rw [mx.1 0 37 (by omega), b5]
    refine ⟨r, σ', τ', ?_, ?_, hf'.1.1.1, ⟨by omega, by omega⟩, ⟨by omega, by omega⟩, hf'.1.1.2.1.1.2.2.2.2.2, fun _ => hf', fun _ => ⟨by omega, rn⟩⟩
    · have z4 : (stI σC 0 6 1).1 0 4 = σC.1 0 4 := by rw [stI_1, if_neg (by omega)]
      have w1' : f_X4_enter (B.1 13 0) 0 (-9) (-9) A = some σ1 := w1
      have v1' : f_X4_go_70 2000 0 σ1 = some (r, σ') := v1
      unfold f_X6_run
      rw [if_neg (by omega), if_pos h3.2, if_neg (by omega), z4, a1, e0, w1', bind_s, v1', bind_s]
    · have w2' : f_X7_begins 0 B = some (1, τ2) := w2
      rw [b1, w2', bind_s]
      exact v2
  · refine ⟨-1, σC, σM, ?_, ?_, hI⟩
    · unfold f_X6_run
      by_cases q : x3 < 1
      · rw [if_pos q]
      · rw [if_neg q, if_neg (by omega)]
    · unfold f_X7_run
      rw [g_in, bind_s, b01_f h3, if_pos rfl]
