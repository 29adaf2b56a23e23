theorem g_writes {σ : Mm} {s : Nat} (h90 : s < 90) {mA mB x2 r p : Int} (h11 : σ.1 11 s = p) (hA : f_X7_var (σ.1 9 s) σ = some mA) (hB : f_X7_var (σ.1 10 s) σ = some mB) (hg : f_X7_against mA x2 p σ = some r) : f_X7_writes s x2 σ = (if r = 0 then (if x2 = 0 then f_X7_writes_74 s x2 mA mB r σ else (if mB < 0 then f_X7_writes_74 s x2 mA mB r σ else ck ((0 : Int) ≤ mA ∧ mA < ((300 : Nat) : Int)) (ck ((0 : Int) ≤ (σ.1 21 (Int.toNat mA)) ∧ (σ.1 21 (Int.toNat mA)) < ((90 : Nat) : Int)) ((f_X7_isObjectBelow mB (σ.1 10 (Int.toNat (σ.1 21 (Int.toNat mA)))) σ).bind (fun r38 => (if r38 = 0 then f_X7_writes_74 s x2 mA mB 4 σ else f_X7_writes_74 s x2 mA mB r σ)))))) else f_X7_writes_74 s x2 mA mB r σ) := by
  unfold f_X7_writes
  simp only [ck_pos (show (0 : Int) ≤ (s : Int) ∧ (s : Int) < ((90 : Nat) : Int) by omega), Int.toNat_natCast]
  rw [hA, bind_s, hB, bind_s, h11, hg, bind_s]
theorem g_w74f {σ : Mm} {s : Nat} {x2 x3 x4 x5 : Int} (h5 : 0 < x5) : f_X7_writes_74 s x2 x3 x4 x5 σ = f_X7_fails x5 s σ := by
  unfold f_X7_writes_74
  rw [if_neg (by omega), bind_id]
theorem g_w74 {B σ : Mm} {s i p x fl : Nat} {x2 m : Int} (h90 : s < 90) (hi : i < 300) (hp : p < 5) (h11 : σ.1 11 s = p) (h22 : σ.1 22 i = x) (hx : (x : Int) < σ.1 0 29) (h60 : x < 60) (h2 : σ.2 = B.2) (hf : (x2 = 0 ∧ fl = p) ∨ (x2 = 1 ∧ fl = 4)) : f_X7_writes_74 s x2 i m 0 σ = f_X7_counts m (B.2 19 (5 * x + fl)) (stI σ 24 (5 * i + p) m) := by
  unfold f_X7_writes_74
  have e29 : (stI σ 24 (5 * i + p) m).1 0 29 = σ.1 0 29 := by rw [stI_1, if_neg (by omega)]
  have e22 : (stI σ 24 (5 * i + p) m).1 22 i = x := by rw [stI_1, if_neg (by omega)]; exact h22
  have e11 : (stI σ 24 (5 * i + p) m).1 11 s = p := by rw [stI_1, if_neg (by omega)]; exact h11
  rw [if_pos (by omega), ck_pos (by omega), Int.toNat_natCast, h11, ck_pos (by omega), bind_s, ck_pos (by omega), show Int.toNat (5 * (i : Int) + p) = 5 * i + p by omega, Int.toNat_natCast, e29, e22, if_neg (by omega), e11, stI_2, h2]
  rcases hf with ⟨f1, f2⟩ | ⟨f1, f2⟩
  · rw [if_pos f1, ck_pos (by omega), ck_pos (by omega), show Int.toNat (5 * (x : Int) + p) = 5 * x + fl by omega, bind_id]
  · rw [if_neg (by omega), ck_pos (by omega), show Int.toNat (5 * (x : Int) + 4) = 5 * x + fl by omega, bind_id]
theorem rn5 {A B σC σM : Mm} {t s n : Nat} {e d H : Int} (hS : FDn A B) (h : RR A B σC σM (t + 1) e d H) (hH : H ≤ 9000) (hd : d + 1 ≤ e) (he : e ≤ 300) (ha : At A B σM t s n) (hk : A.1 8 s = 5) : Rs A B (f_X4_doStep s σC) (f_X7_does s (A.2 43 5) σM) t e H := by
  obtain ⟨a1, a2, a3, a4, a5⟩ := ha
  obtain ⟨⟨c8, c9, c10, c11, c12⟩, ⟨m8, m9, m10, m11, m12⟩, h90⟩ := stat hS h a2
  obtain ⟨-, ok2, -, -, ok5, ok6, -⟩ := PR_okS hS.1.1.1 a2
  have ra := ok2 (by omega)
  have rb := ok5 (by omega)
  have rc := ok6 (by omega)
  clear ok2 ok5 ok6
  have vA := g_var h ra
  have vB := g_var h rb
  have wB := e_varOf h rb
  rw [dC5 h90 (c8.trans hk), dM5 h90 (m8.trans hk), c9, e_varOf h ra, bind_s]
  obtain ⟨v1, v2⟩ := h.2.2.2.2.1 t (Int.toNat (A.1 9 s)) (by omega) (by omega)
  obtain ⟨u1, u2⟩ := h.2.2.2.2.1 t (Int.toNat (A.1 10 s)) (by omega) (by omega)
  generalize σC.1 48 (6 * t + Int.toNat (A.1 9 s)) = c at *
  generalize σM.1 28 (6 * t + Int.toNat (A.1 9 s)) = m at *
  generalize σC.1 48 (6 * t + Int.toNat (A.1 10 s)) = c' at *
  generalize σM.1 28 (6 * t + Int.toNat (A.1 10 s)) = m' at *
  rw [← m9] at vA
  rw [← m10] at vB
  obtain ⟨q1, q2⟩ := thg_m v1
  obtain ⟨p, hp⟩ : ∃ p : Nat, A.1 11 s = p := ⟨Int.toNat (A.1 11 s), by omega⟩
  unfold f_X4_store
  by_cases hm : m < 0
  · rw [if_pos (q1.mpr hm), g_writes h90 m11 vA vB (g_agn hm), if_neg (show ¬ (1 : Int) = 0 by omega), g_w74f (by omega), bind_id]
    exact Rs_fail h (by omega) he (by omega) s
  have hmN := v1.1.2
  obtain ⟨i, rfl⟩ : ∃ i : Nat, m = i := ⟨Int.toNat m, by omega⟩
  obtain rfl : c = (i : Int) := q2 (by omega)
  obtain ⟨x, k, x1, x2, x3, x4, k1, k2, k3, k4, k5, k6, k7, k8, k9, k10, k11, k12⟩ := ob_all hS h (by omega) (i := i) hmN
  rw [if_neg (show ¬ (i : Int) = -9 by omega), k10, bind_s, g_writes h90 m11 vA vB (g_ag0 k11 _)]
  by_cases hr : A.1 8 k = 1
  · rw [b01_t hr, if_neg (show ¬ (1 : Int) = 0 by omega), if_pos hr, if_neg (show ¬ (2 : Int) = 0 by omega), g_w74f (by omega), bind_id]
    exact Rs_fail h (by omega) he (by omega) s
  · rw [b01_f hr, if_pos rfl, if_neg hr, if_pos rfl, if_pos rfl, g_w74 (B := B) (fl := p) h90 k9 (show p < 5 by omega) (by rw [m11, hp]) x1 (by rw [h.1.2.1 0 29 (by omega)]; exact x3) x4 h.1.2.2 (Or.inl ⟨rfl, rfl⟩)]
    simp only [ck_pos (show (0 : Int) ≤ (s : Int) ∧ (s : Int) < ((90 : Nat) : Int) by omega), Int.toNat_natCast, c10, c11, bind_id]
    rw [wB, bind_s, hp]
    have v2' := v2 (by omega)
    rw [Int.toNat_natCast, x1, Int.toNat_natCast, a1] at v2'
    have cl := a5.2.2.2.1 hk x x3 v2' (by rw [k5]; exact hr)
    rw [hp, Int.toNat_natCast] at cl
    obtain ⟨σC', σM', w1, w2, w3⟩ := inside_sim hS h (by omega) (by omega) (i := i) (p := p) (x := x) (fl := p) hmN (by omega) x1 (by rw [k1, Int.toNat_natCast, if_neg hr]) u1 (Snd_sub (by rw [a1]; exact cl) u2)
    exact ⟨σC', σM', w1, w2, Or.inl ⟨t, by omega, RR_H w3 (by omega) (by omega)⟩⟩
theorem rn7 {A B σC σM : Mm} {t s n : Nat} {e d H : Int} (hS : FDn A B) (h : RR A B σC σM (t + 1) e d H) (hH : H ≤ 9000) (hd : d + 1 ≤ e) (he : e ≤ 300) (ha : At A B σM t s n) (hk : A.1 8 s = 7) : Rs A B (f_X4_doStep s σC) (f_X7_does s (A.2 43 5) σM) t e H := by
  obtain ⟨a1, a2, a3, a4, a5⟩ := ha
  obtain ⟨⟨c8, c9, c10, c11, c12⟩, ⟨m8, m9, m10, m11, m12⟩, h90⟩ := stat hS h a2
  obtain ⟨-, ok2, -, -, ok5, -, ok7, -⟩ := PR_okS hS.1.1.1 a2
  have ra := ok2 (by omega)
  have rb := ok5 (by omega)
  have rc := ok7 (by omega)
  clear ok2 ok5 ok7
  have h10 := hS.1.1.1.1.1
  have vA := g_var h ra
  have vB := g_var h rb
  have wB := e_varOf h rb
  rw [dC7 h90 (c8.trans hk), dM7 h90 (m8.trans hk), c9, c10, e_varOf h ra, bind_s, e_varOf h rb, bind_s]
  obtain ⟨v1, v2⟩ := h.2.2.2.2.1 t (Int.toNat (A.1 9 s)) (by omega) (by omega)
  obtain ⟨u1, u2⟩ := h.2.2.2.2.1 t (Int.toNat (A.1 10 s)) (by omega) (by omega)
  generalize σC.1 48 (6 * t + Int.toNat (A.1 9 s)) = c at *
  generalize σM.1 28 (6 * t + Int.toNat (A.1 9 s)) = m at *
  generalize σC.1 48 (6 * t + Int.toNat (A.1 10 s)) = c' at *
  generalize σM.1 28 (6 * t + Int.toNat (A.1 10 s)) = m' at *
  rw [← m9] at vA
  rw [← m10] at vB
  obtain ⟨q1, q2⟩ := thg_m v1
  obtain ⟨q3, q4⟩ := thg_m u1
  obtain ⟨p, hp⟩ : ∃ p : Nat, A.1 11 s = p := ⟨Int.toNat (A.1 11 s), by omega⟩
  unfold f_X4_lay
  simp only [ck_pos (show (0 : Int) ≤ (s : Int) ∧ (s : Int) < ((90 : Nat) : Int) by omega), Int.toNat_natCast, c11, bind_id]
  by_cases hm : m < 0
  · have f1 : f_X4_failureOfPlace c (A.1 11 s) σC = some 1 := by unfold f_X4_failureOfPlace; rw [if_pos (q1.mpr hm)]
    rw [f1, bind_s, if_neg (show ¬ (1 : Int) = 0 by omega), g_writes h90 m11 vA vB (g_agn hm), if_neg (show ¬ (1 : Int) = 0 by omega), g_w74f (by omega)]
    exact Rs_fail h (by omega) he (by omega) s
  have hmN := v1.1.2
  obtain ⟨i, rfl⟩ : ∃ i : Nat, m = i := ⟨Int.toNat m, by omega⟩
  obtain rfl : c = (i : Int) := q2 (by omega)
  obtain ⟨x, k, x1, x2, x3, x4, k1, k2, k3, k4, k5, k6, k7, k8, k9, k10, k11, k12⟩ := ob_all hS h (by omega) (i := i) hmN
  obtain ⟨⟨-, -, d10, d11, -⟩, ⟨-, -, n10, n11, -⟩, -⟩ := stat hS h k3
  rw [e_fop k10 k9 k4 k2 (show 0 ≤ A.1 11 s by omega), bind_s, g_writes h90 m11 vA vB (g_ag1 k11 k9 k4 k1 _), d11, n11]
  by_cases hr : A.1 8 k = 1
  · rw [if_pos hr]
    by_cases hpl : A.1 11 s < A.1 11 k
    · obtain ⟨-, -, okb, okc, -⟩ := PR_okS hS.1.1.1 k3
      have c5 := okc hr
      have b5 := okb (by omega)
      clear okb okc
      obtain ⟨b, hb⟩ : ∃ b : Nat, A.1 10 k = b := ⟨Int.toNat (A.1 10 k), by omega⟩
      have w74 := g_w74 (B := B) (σ := σM) (s := s) (i := i) (p := p) (x := x) (fl := 4) (x2 := 1) (m := m') h90 k9 (show p < 5 by omega) (by rw [m11, hp]) x1 (by rw [h.1.2.1 0 29 (by omega)]; exact x3) x4 h.1.2.2 (Or.inr ⟨rfl, rfl⟩)
      have v2' := v2 (by omega)
      rw [Int.toNat_natCast, x1, Int.toNat_natCast, a1] at v2'
      have cl := a5.2.2.2.2.2.1 hk x x3 v2' (by rw [k5]; exact hr)
      rw [k5, hb, Int.toNat_natCast] at cl
      have fin : (0 ≤ m' → ∀ y : Nat, σM.1 22 (Int.toNat m') = y → blw A (mcl A (xst B y)) b = true) → Rs A B (f_X4_setInside i p 4 c' σC) (f_X7_counts m' (B.2 19 (5 * x + 4)) (stI σM 24 (5 * i + p) m')) t e H := fun hbl => by
        obtain ⟨σC', σM', w1, w2, w3⟩ := inside_sim hS h (by omega) (by omega) (i := i) (p := p) (x := x) (fl := 4) hmN (by omega) x1 (by rw [k1, Int.toNat_natCast, if_pos hr]) u1 (fun z => by
          have u2' := u2 z
          rw [a1] at u2'
          refine cl _ u2' (hbl z _ ?_)
          have hmN' := u1.1.2
          obtain ⟨-, -, -, -, o5, -⟩ := h.2.2.2.2.2.2.1 (Int.toNat m') (by omega)
          omega)
        exact ⟨σC', σM', w1, w2, Or.inl ⟨t, by omega, RR_H w3 (by omega) (by omega)⟩⟩
      rw [if_pos hpl, if_pos rfl, if_pos rfl, if_neg (show ¬ (1 : Int) = 0 by omega), w74, hp]
      by_cases hm' : m' < 0
      · rw [if_pos (q3.mpr hm'), if_pos hm']
        exact fin (fun z => by omega)
      · have hmN' := u1.1.2
        obtain ⟨i', rfl⟩ : ∃ i' : Nat, m' = i' := ⟨Int.toNat m', by omega⟩
        obtain rfl : c' = (i' : Int) := q4 (by omega)
        obtain ⟨x', k', x1', x2', x3', x4', k1', k2', k3', k4', k5', k6', k7', k8', k9', k10', k11', k12'⟩ := ob_all hS h (by omega) (i := i') hmN'
        have rcl : f_X2_rowClass i σC = some (b : Int) := by
          unfold f_X2_rowClass
          rw [ck_pos (by omega), Int.toNat_natCast, k2, ck_pos (by omega), Int.toNat_natCast, d10, hb]
        rw [if_neg (show ¬ (i' : Int) = -9 by omega), if_neg hm', k12', bind_s, rcl, bind_s, (g_below_o hS h k8' (show b < 10 by omega)).1, bind_s, ck_pos (by omega), Int.toNat_natCast, k1, ck_pos (by omega), Int.toNat_natCast, n10, hb, g_obelow hS h k9' k7' k8' (show b < 10 by omega), bind_s]
        by_cases hbb : blw A (mcl A k') b = true
        · rw [b01_t hbb, if_neg (show ¬ (1 : Int) = 0 by omega), if_neg (show ¬ (1 : Int) = 0 by omega)]
          refine fin (fun _ y hy => ?_)
          rw [Int.toNat_natCast, x1'] at hy
          obtain rfl : x' = y := by omega
          rw [k5']
          exact hbb
        · rw [b01_f hbb, if_pos rfl, if_pos rfl, g_w74f (by omega)]
          exact Rs_fail h (by omega) he (by omega) s
    · rw [if_neg hpl, if_neg (show ¬ (3 : Int) = 0 by omega), if_neg (show ¬ (3 : Int) = 0 by omega), g_w74f (by omega)]
      exact Rs_fail h (by omega) he (by omega) s
  · rw [if_neg hr, if_neg (show ¬ (2 : Int) = 0 by omega), if_neg (show ¬ (2 : Int) = 0 by omega), g_w74f (by omega)]
    exact Rs_fail h (by omega) he (by omega) s
