/-! what is read and written -/
theorem g_agn {σ : Mm} {m x p : Int} (hm : m < 0) : f_X7_against m x p σ = some 1 := by
  unfold f_X7_against
  rw [if_neg (by omega)]
theorem g_ag0 {σ : Mm} {i : Nat} {P : Prop} [Decidable P] (h : f_X7_isRowNow i σ = some (b01 P)) (p : Int) : f_X7_against i 0 p σ = some (if P then 2 else 0) := by
  unfold f_X7_against
  rw [if_pos (by omega), h, bind_s]
  by_cases hp : P
  · rw [b01_t hp, if_neg (by omega), if_pos hp]
  · rw [b01_f hp, if_pos rfl, if_pos rfl, if_neg hp]
theorem g_ag1 {σ : Mm} {i k : Nat} {P : Prop} [Decidable P] (h : f_X7_isRowNow i σ = some (b01 P)) (hi : i < 300) (hk : k < 90) (h21 : σ.1 21 i = k) (p : Int) : f_X7_against i 1 p σ = some (if P then (if p < σ.1 11 k then 0 else 3) else 2) := by
  unfold f_X7_against
  rw [if_pos (by omega), h, bind_s]
  by_cases hp : P
  · rw [b01_t hp, if_pos rfl, if_neg (by omega), if_pos hp, ck_pos (by omega), Int.toNat_natCast, h21, ck_pos (by omega), Int.toNat_natCast]
    by_cases hq : p < σ.1 11 k
    · rw [if_pos hq, if_pos hq]
    · rw [if_neg hq, if_neg hq]
  · rw [b01_f hp, if_neg (by omega), if_neg hp]
theorem e_fop {σ : Mm} {i k : Nat} {P : Prop} [Decidable P] (h : f_X2_isRow i σ = some (b01 P)) (hi : i < 300) (hk : k < 90) (h51 : σ.1 51 i = k) {p : Int} (h0 : 0 ≤ p) : f_X4_failureOfPlace i p σ = some (if P then (if p < σ.1 11 k then 0 else 3) else 2) := by
  unfold f_X4_failureOfPlace f_X2_hasPlace
  rw [if_neg (by omega), h, bind_s]
  by_cases hp : P
  · rw [b01_t hp, if_neg (by omega), if_pos hp, ck_pos (by omega), Int.toNat_natCast, h51, ck_pos (by omega), Int.toNat_natCast, e_isIn, bind_s]
    by_cases hq : p < σ.1 11 k
    · rw [b01_t ⟨h0, hq⟩, ck_pos (by omega), bind_s, if_neg (by omega), if_pos hq]
    · rw [b01_f (fun z => hq z.2), ck_pos (by omega), bind_s, if_pos rfl, if_neg hq]
  · rw [b01_f hp, if_pos rfl, if_neg hp]
theorem g_reads {σ : Mm} {s : Nat} (h90 : s < 90) {m x2 r a p : Int} (h9 : σ.1 9 s = a) (h11 : σ.1 11 s = p) (hv : f_X7_var (σ.1 10 s) σ = some m) (hg : f_X7_against m x2 p σ = some r) : f_X7_reads s x2 σ = if r ≤ 0 then ck ((0 : Int) ≤ ((5 * m) + p) ∧ ((5 * m) + p) < ((1500 : Nat) : Int)) (f_X7_becomes a (σ.1 24 (Int.toNat ((5 * m) + p))) σ) else f_X7_fails r s σ := by
  unfold f_X7_reads
  simp only [ck_pos (show (0 : Int) ≤ (s : Int) ∧ (s : Int) < ((90 : Nat) : Int) by omega), Int.toNat_natCast, bind_id]
  rw [hv, bind_s, h11, hg, bind_s, h9]
theorem rn4 {A B σC σM : Mm} {t s n : Nat} {e d H : Int} (hS : FDn A B) (h : RR A B σC σM (t + 1) e d H) (hH : H ≤ 9000) (hd : d + 1 ≤ e) (he : e ≤ 300) (ha : At A B σM t s n) (hk : A.1 8 s = 4) : Rs A B (f_X4_doStep s σC) (f_X7_does s (A.2 43 5) σM) t e H := by
  obtain ⟨a1, a2, a3, a4, a5⟩ := ha
  obtain ⟨⟨c8, c9, c10, c11, c12⟩, ⟨m8, m9, m10, m11, m12⟩, h90⟩ := stat hS h a2
  obtain ⟨-, ok2, -, -, ok5, ok6, -⟩ := PR_okS hS.1.1.1 a2
  have ra := ok2 (by omega)
  have rb := ok5 (by omega)
  have rc := ok6 (by omega)
  clear ok2 ok5 ok6
  have vM := g_var h rb
  rw [← m10] at vM
  rw [dC4 h90 (c8.trans hk), dM4 h90 (m8.trans hk), c10, e_varOf h rb, bind_s]
  obtain ⟨v1, v2⟩ := h.2.2.2.2.1 t (Int.toNat (A.1 10 s)) (by omega) (by omega)
  rw [m10] at vM
  generalize σC.1 48 (6 * t + Int.toNat (A.1 10 s)) = c at *
  generalize σM.1 28 (6 * t + Int.toNat (A.1 10 s)) = m at *
  rw [← m10] at vM
  obtain ⟨q1, q2⟩ := thg_m v1
  obtain ⟨p, hp⟩ : ∃ p : Nat, A.1 11 s = p := ⟨Int.toNat (A.1 11 s), by omega⟩
  unfold f_X4_load
  by_cases hm : m < 0
  · rw [if_pos (q1.mpr hm), g_reads h90 m9 m11 vM (g_agn hm), if_neg (show ¬ (1 : Int) ≤ 0 by omega), bind_id]
    exact Rs_fail h (by omega) he (by omega) s
  have hmN := v1.1.2
  obtain ⟨i, rfl⟩ : ∃ i : Nat, m = i := ⟨Int.toNat m, by omega⟩
  obtain rfl : c = (i : Int) := q2 (by omega)
  obtain ⟨x, k, x1, x2, x3, x4, k1, k2, k3, k4, k5, k6, k7, k8, k9, k10, k11, k12⟩ := ob_all hS h (by omega) (i := i) hmN
  rw [if_neg (show ¬ (i : Int) = -9 by omega), k10, bind_s, g_reads h90 m9 m11 vM (g_ag0 k11 _)]
  by_cases hr : A.1 8 k = 1
  · rw [b01_t hr, if_neg (show ¬ (1 : Int) = 0 by omega), if_pos hr, if_neg (show ¬ (2 : Int) ≤ 0 by omega), bind_id]
    exact Rs_fail h (by omega) he (by omega) s
  · have fo : f_X2_fieldOf i p σC = some (σC.1 54 (5 * i + p)) := by
      unfold f_X2_fieldOf
      rw [k10, bind_s, b01_f hr, if_pos rfl, ck_pos (by omega), show Int.toNat ((i : Int) * 5 + p) = 5 * i + p by omega]
    rw [b01_f hr, if_pos rfl, if_neg hr, if_pos (show (0 : Int) ≤ 0 by omega), ck_pos (by omega), ck_pos (by omega), Int.toNat_natCast, c11, c9, hp, fo, bind_s, bind_id, ck_pos (by omega), show Int.toNat (5 * (i : Int) + p) = 5 * i + p by omega]
    obtain ⟨s1, s2⟩ := h.2.2.2.2.2.2.2.1 i p hmN (by omega)
    refine Rs_set hS h hH (by omega) he ra s1 (Snd_sub ?_ s2)
    rw [k1, x1, Int.toNat_natCast, Int.toNat_natCast, if_neg hr, a1]
    have := v2 (by omega)
    rw [Int.toNat_natCast, x1, Int.toNat_natCast, a1] at this
    have cl := a5.2.2.1 hk x x3 this (by rw [k5]; exact hr)
    rw [hp, Int.toNat_natCast] at cl
    exact cl
theorem rn6 {A B σC σM : Mm} {t s n : Nat} {e d H : Int} (hS : FDn A B) (h : RR A B σC σM (t + 1) e d H) (hH : H ≤ 9000) (hd : d + 1 ≤ e) (he : e ≤ 300) (ha : At A B σM t s n) (hk : A.1 8 s = 6) : Rs A B (f_X4_doStep s σC) (f_X7_does s (A.2 43 5) σM) t e H := by
  obtain ⟨a1, a2, a3, a4, a5⟩ := ha
  obtain ⟨⟨c8, c9, c10, c11, c12⟩, ⟨m8, m9, m10, m11, m12⟩, h90⟩ := stat hS h a2
  obtain ⟨-, ok2, -, -, ok5, -, ok7, -⟩ := PR_okS hS.1.1.1 a2
  have ra := ok2 (by omega)
  have rb := ok5 (by omega)
  have rc := ok7 (by omega)
  clear ok2 ok5 ok7
  have vM := g_var h rb
  rw [dC6 h90 (c8.trans hk), dM6 h90 (m8.trans hk), c10, e_varOf h rb, bind_s]
  obtain ⟨v1, v2⟩ := h.2.2.2.2.1 t (Int.toNat (A.1 10 s)) (by omega) (by omega)
  generalize σC.1 48 (6 * t + Int.toNat (A.1 10 s)) = c at *
  generalize σM.1 28 (6 * t + Int.toNat (A.1 10 s)) = m at *
  rw [← m10] at vM
  obtain ⟨q1, q2⟩ := thg_m v1
  obtain ⟨p, hp⟩ : ∃ p : Nat, A.1 11 s = p := ⟨Int.toNat (A.1 11 s), by omega⟩
  unfold f_X4_take
  simp only [ck_pos (show (0 : Int) ≤ (s : Int) ∧ (s : Int) < ((90 : Nat) : Int) by omega), Int.toNat_natCast, c11, c9, bind_id]
  by_cases hm : m < 0
  · have f1 : f_X4_failureOfPlace c (A.1 11 s) σC = some 1 := by unfold f_X4_failureOfPlace; rw [if_pos (q1.mpr hm)]
    rw [f1, bind_s, if_neg (show ¬ (1 : Int) = 0 by omega), g_reads h90 m9 m11 vM (g_agn hm), if_neg (show ¬ (1 : Int) ≤ 0 by omega)]
    exact Rs_fail h (by omega) he (by omega) s
  have hmN := v1.1.2
  obtain ⟨i, rfl⟩ : ∃ i : Nat, m = i := ⟨Int.toNat m, by omega⟩
  obtain rfl : c = (i : Int) := q2 (by omega)
  obtain ⟨x, k, x1, x2, x3, x4, k1, k2, k3, k4, k5, k6, k7, k8, k9, k10, k11, k12⟩ := ob_all hS h (by omega) (i := i) hmN
  obtain ⟨⟨-, -, -, d11, -⟩, ⟨-, -, -, n11, -⟩, -⟩ := stat hS h k3
  rw [e_fop k10 k9 k4 k2 (show 0 ≤ A.1 11 s by omega), bind_s, g_reads h90 m9 m11 vM (g_ag1 k11 k9 k4 k1 _), d11, n11]
  by_cases hr : A.1 8 k = 1
  · rw [if_pos hr]
    by_cases hpl : A.1 11 s < A.1 11 k
    · have c5 := (PR_okS hS.1.1.1 k3).2.2.2.1 hr
      have po : f_X2_placeOf i p σC = some (σC.1 54 (5 * i + p)) := by
        unfold f_X2_placeOf
        rw [k10, bind_s, b01_t hr, if_neg (by omega), ck_pos (by omega), show Int.toNat ((i : Int) * 5 + p) = 5 * i + p by omega]
      rw [if_pos hpl, if_pos rfl, if_pos (show (0 : Int) ≤ 0 by omega), hp, po, bind_s, ck_pos (by omega), show Int.toNat (5 * (i : Int) + p) = 5 * i + p by omega]
      obtain ⟨s1, s2⟩ := h.2.2.2.2.2.2.2.1 i p hmN (by omega)
      refine Rs_set hS h hH (by omega) he ra s1 (Snd_sub ?_ s2)
      rw [k1, x1, Int.toNat_natCast, Int.toNat_natCast, if_pos hr, a1]
      have := v2 (by omega)
      rw [Int.toNat_natCast, x1, Int.toNat_natCast, a1] at this
      exact a5.2.2.2.2.1 hk x x3 this (by rw [k5]; exact hr)
    · rw [if_neg hpl, if_neg (show ¬ (3 : Int) = 0 by omega), if_neg (show ¬ (3 : Int) ≤ 0 by omega)]
      exact Rs_fail h (by omega) he (by omega) s
  · rw [if_neg hr, if_neg (show ¬ (2 : Int) = 0 by omega), if_neg (show ¬ (2 : Int) ≤ 0 by omega)]
    exact Rs_fail h (by omega) he (by omega) s
theorem g_below_o {A B σC σM : Mm} {t : Nat} {e d H : Int} (hS : FDn A B) (h : RR A B σC σM t e d H) {k q : Nat} (hk : ((mcl A k : Nat) : Int) < A.1 1 0) (hq : q < 10) : f_X3_liesBelow (mcl A k : Nat) q σC = some (b01 (blw A (mcl A k) q = true)) ∧ f_X7_isBelow (mcl A k : Nat) q σM = some (b01 (blw A (mcl A k) q = true)) := by
  have hP : PR σC σM := (FD_run hS h.1.1 h.1.2).1.1.1
  have h10 := hS.1.1.1.1.1
  have e10 : σC.1 1 0 = A.1 1 0 := h.1.1.1 1 0 (by omega) (by omega)
  have e2 : blw σC (mcl A k) q = blw A (mcl A k) q := by unfold blw; rw [h.1.1.1 2 _ (by omega) (by omega)]
  rw [e_liesBelow (show mcl A k < 10 by omega) (show q < 32 by omega), g_isBelow hP.2.1 (by omega) (by omega) hq, e2]
  exact ⟨rfl, rfl⟩
theorem g_obelow {A B σC σM : Mm} {t : Nat} {e d H : Int} (hS : FDn A B) (h : RR A B σC σM t e d H) {i k q : Nat} (hi : i < 300) (h29 : σM.1 29 i = (mcl A k : Nat)) (hk : ((mcl A k : Nat) : Int) < A.1 1 0) (hq : q < 10) : f_X7_isObjectBelow i q σM = some (b01 (blw A (mcl A k) q = true)) := by
  unfold f_X7_isObjectBelow
  rw [ck_pos (by omega), Int.toNat_natCast, h29, (g_below_o hS h hk hq).2, bind_s, ck_pos b01_z]
theorem rn8 {A B σC σM : Mm} {t s n : Nat} {e d H : Int} (hS : FDn A B) (h : RR A B σC σM (t + 1) e d H) (hH : H ≤ 9000) (hd : d + 1 ≤ e) (he : e ≤ 300) (ha : At A B σM t s n) (hk : A.1 8 s = 8) : Rs A B (f_X4_doStep s σC) (f_X7_does s (A.2 43 5) σM) t e H := by
  obtain ⟨a1, a2, a3, a4, a5⟩ := ha
  obtain ⟨⟨c8, c9, c10, c11, c12⟩, ⟨m8, m9, m10, m11, m12⟩, h90⟩ := stat hS h a2
  obtain ⟨-, ok2, -, -, ok5, -, -, ok8, -⟩ := PR_okS hS.1.1.1 a2
  have ra := ok2 (by omega)
  have rb := ok5 (by omega)
  have rc := ok8 (by omega)
  clear ok2 ok5 ok8
  have h10 := hS.1.1.1.1.1
  rw [dC8 h90 (c8.trans hk), dM8 h90 (m8.trans hk), c10, m10, e_varOf h rb, g_var h rb, bind_s, bind_s, m9, m11]
  obtain ⟨v1, v2⟩ := h.2.2.2.2.1 t (Int.toNat (A.1 10 s)) (by omega) (by omega)
  generalize σC.1 48 (6 * t + Int.toNat (A.1 10 s)) = c at *
  generalize σM.1 28 (6 * t + Int.toNat (A.1 10 s)) = m at *
  obtain ⟨q1, q2⟩ := thg_m v1
  obtain ⟨p, hp⟩ : ∃ p : Nat, A.1 11 s = p := ⟨Int.toNat (A.1 11 s), by omega⟩
  unfold f_X4_cast
  simp only [ck_pos (show (0 : Int) ≤ (s : Int) ∧ (s : Int) < ((90 : Nat) : Int) by omega), Int.toNat_natCast, c11, c9, bind_id]
  by_cases hm : m < 0
  · rw [if_pos (q1.mpr hm), if_pos hm]
    exact Rs_set hS h hH (by omega) he ra v1 (fun z => by omega)
  have hmN := v1.1.2
  obtain ⟨i, rfl⟩ : ∃ i : Nat, m = i := ⟨Int.toNat m, by omega⟩
  obtain rfl : c = (i : Int) := q2 (by omega)
  obtain ⟨x, k, x1, x2, x3, x4, k1, k2, k3, k4, k5, k6, k7, k8, k9, k10, k11, k12⟩ := ob_all hS h (by omega) (i := i) hmN
  rw [if_neg (show ¬ (i : Int) = -9 by omega), if_neg hm, k12, bind_s, hp, (g_below_o hS h k8 (show p < 10 by omega)).1, g_obelow hS h k9 k7 k8 (show p < 10 by omega), bind_s, bind_s]
  by_cases hb : blw A (mcl A k) p = true
  · rw [b01_t hb, if_neg (show ¬ (1 : Int) = 0 by omega), if_neg (show ¬ (1 : Int) = 0 by omega)]
    refine Rs_set hS h hH (by omega) he ra v1 (fun _ => ?_)
    have := v2 (by omega)
    rw [Int.toNat_natCast, x1, Int.toNat_natCast, a1] at this ⊢
    exact a5.2.2.2.2.2.2.1 hk x this (by rw [k5, hp, Int.toNat_natCast]; exact hb)
  · rw [b01_f hb, if_pos rfl, if_pos rfl]
    exact Rs_fail h (by omega) he (by omega) s
