def At (A B σM : Mm) (t s n : Nat) : Prop := nd σM t = n ∧ (s : Int) < A.1 1 2 ∧ A.1 13 s = B.1 13 n ∧ σM.1 27 t = A.1 14 s + 1 ∧ Cl A B n s
def Rs (A B : Mm) (fC fM : Option Mm) (t : Nat) (e H : Int) : Prop := ∃ σC' σM', fC = some σC' ∧ fM = some σM' ∧ ((∃ t', t' ≤ t + 1 ∧ RR A B σC' σM' (t' + 1) e e (H + 3)) ∨ RE A B σC' σM')
theorem stat {A B σC σM : Mm} {t : Nat} {e d H : Int} (hS : FDn A B) (h : RR A B σC σM t e d H) {s : Nat} (hs : (s : Int) < A.1 1 2) : (σC.1 8 s = A.1 8 s ∧ σC.1 9 s = A.1 9 s ∧ σC.1 10 s = A.1 10 s ∧ σC.1 11 s = A.1 11 s ∧ σC.1 12 s = A.1 12 s) ∧ (σM.1 8 s = A.1 8 s ∧ σM.1 9 s = A.1 9 s ∧ σM.1 10 s = A.1 10 s ∧ σM.1 11 s = A.1 11 s ∧ σM.1 12 s = A.1 12 s) ∧ s < 90 := by
  obtain ⟨⟨cx, mx⟩, -⟩ := h
  have hP := hS.1.1.1
  have h12 := hP.1.2.2.1
  obtain ⟨⟨-, -, p3, p4, p5, p6, p7⟩, -⟩ := hP.2.2.2.2.2.1 s hs
  refine ⟨⟨cx.1 8 s (by omega) (by omega), cx.1 9 s (by omega) (by omega), cx.1 10 s (by omega) (by omega), cx.1 11 s (by omega) (by omega), cx.1 12 s (by omega) (by omega)⟩, ⟨?_, ?_, ?_, ?_, ?_⟩, by omega⟩
  · rw [mx.1 8 s (by omega)]; exact p3
  · rw [mx.1 9 s (by omega)]; exact p4
  · rw [mx.1 10 s (by omega)]; exact p5
  · rw [mx.1 11 s (by omega)]; exact p6
  · rw [mx.1 12 s (by omega)]; exact p7
theorem Snd_sub {σM : Mm} {X Y : Int64} {m : Int} (hs : ∀ i, lb X i = true → lb Y i = true) (h : Snd σM X m) : Snd σM Y m := fun z => hs _ (h z)
theorem Rs_set {A B σC σM : Mm} {t : Nat} {e d H : Int} (hS : FDn A B) (h : RR A B σC σM (t + 1) e d H) (hH : H ≤ 9000) (hd : d ≤ e) (he : e ≤ 300) {a c m : Int} (ha : 0 ≤ a ∧ a < 6) (hc : thg (σM.1 0 46) c m) (hs : Snd σM (B.2 16 (8 * nd σM t + Int.toNat a)) m) : Rs A B (f_X4_setVar a c σC) (f_X7_becomes a m σM) t e H := by
  obtain ⟨v, rfl⟩ : ∃ v : Nat, a = v := ⟨Int.toNat a, by omega⟩
  rw [Int.toNat_natCast] at hs
  obtain ⟨σC', σM', w1, w2, w3, -⟩ := set_sim hS h (by omega) (by omega) (v := v) (by omega) hc hs
  exact ⟨σC', σM', w1, w2, Or.inl ⟨t, by omega, RR_H w3 (by omega) hd⟩⟩
theorem Rs_fail {A B σC σM : Mm} {t t1 : Nat} {e d H H1 : Int} (h : RR A B σC σM t e d H) (hd : d ≤ e) (he : e ≤ 300) {x : Int} (hx : x ≠ 0) (s : Int) : Rs A B (f_X4_fail x s σC) (f_X7_fails x s σM) t1 e H1 := by
  unfold f_X4_fail f_X7_fails
  rw [ck_pos (by omega), ck_pos (by omega)]
  exact ⟨_, _, rfl, rfl, Or.inr (RE_fail h (by omega) hx s)⟩
theorem RR_n {A B σC σM : Mm} {t : Nat} {e d H : Int} (h : RR A B σC σM t e d H) : thg (σM.1 0 46) (-9) (-1) := ⟨⟨by omega, by have := h.2.2.1.1; omega⟩, rfl⟩
theorem Snd_n {σM : Mm} {X : Int64} : Snd σM X (-1) := fun z => by omega
theorem rn2 {A B σC σM : Mm} {t s n : Nat} {e d H : Int} (hS : FDn A B) (h : RR A B σC σM (t + 1) e d H) (hH : H ≤ 9000) (hd : d + 1 ≤ e) (he : e ≤ 300) (ha : At A B σM t s n) (hk : A.1 8 s = 2) : Rs A B (f_X4_doStep s σC) (f_X7_does s (A.2 43 5) σM) t e H := by
  obtain ⟨a1, a2, a3, a4, a5⟩ := ha
  obtain ⟨⟨c8, c9, c10, c11, c12⟩, ⟨m8, m9, m10, m11, m12⟩, h90⟩ := stat hS h a2
  obtain ⟨-, ok2, -, -, ok5, -⟩ := PR_okS hS.1.1.1 a2
  have ra := ok2 (by omega)
  have rb := ok5 (by omega)
  rw [dC2 h90 (c8.trans hk), dM2 h90 (m8.trans hk), c9, c10, m9, m10, e_varOf h rb, g_var h rb, bind_s, bind_s]
  obtain ⟨v1, v2⟩ := h.2.2.2.2.1 t (Int.toNat (A.1 10 s)) (by omega) (by omega)
  refine Rs_set hS h hH (by omega) he ra v1 (Snd_sub ?_ v2)
  rw [a1]
  exact a5.2.1 hk
theorem rn3 {A B σC σM : Mm} {t s n : Nat} {e d H : Int} (hS : FDn A B) (h : RR A B σC σM (t + 1) e d H) (hH : H ≤ 9000) (hd : d + 1 ≤ e) (he : e ≤ 300) (ha : At A B σM t s n) (hk : A.1 8 s = 3) : Rs A B (f_X4_doStep s σC) (f_X7_does s (A.2 43 5) σM) t e H := by
  obtain ⟨a1, a2, a3, a4, a5⟩ := ha
  obtain ⟨⟨c8, c9, c10, c11, c12⟩, ⟨m8, m9, m10, m11, m12⟩, h90⟩ := stat hS h a2
  obtain ⟨-, ok2, -⟩ := PR_okS hS.1.1.1 a2
  have ra := ok2 (by omega)
  rw [dC3 h90 (c8.trans hk), dM3 h90 (m8.trans hk), c9, m9]
  exact Rs_set hS h hH (by omega) he ra (RR_n h) Snd_n
theorem rn14 {A B σC σM : Mm} {t s n : Nat} {e d H : Int} (hS : FDn A B) (h : RR A B σC σM (t + 1) e d H) (hH : H ≤ 9000) (hd : d + 1 ≤ e) (he : e ≤ 300) (ha : At A B σM t s n) (hk : A.1 8 s = 14) : Rs A B (f_X4_doStep s σC) (f_X7_does s (A.2 43 5) σM) t e H := by
  obtain ⟨a1, a2, a3, a4, a5⟩ := ha
  obtain ⟨⟨c8, c9, c10, c11, c12⟩, ⟨m8, m9, m10, m11, m12⟩, h90⟩ := stat hS h a2
  obtain ⟨-, ok2, -, -, -, ok6, -⟩ := PR_okS hS.1.1.1 a2
  have ra := ok2 (by omega)
  have rc := ok6 (by omega)
  rw [dC14 h90 (c8.trans hk), dM14 h90 (m8.trans hk), c9, c11, m9, m11, ck_pos (by omega), ck_pos (by omega)]
  obtain ⟨v1, v2⟩ := h.2.2.2.2.2.2.2.2 (Int.toNat (A.1 11 s)) (by omega)
  refine Rs_set hS h hH (by omega) he ra v1 (Snd_sub ?_ v2)
  rw [a1]
  exact a5.2.2.2.2.2.2.2.2.2.2.2.1 hk
theorem rn13 {A B σC σM : Mm} {t s n : Nat} {e d H : Int} (hS : FDn A B) (h : RR A B σC σM (t + 1) e d H) (hH : H ≤ 9000) (hd : d + 1 ≤ e) (he : e ≤ 300) (ha : At A B σM t s n) (hk : A.1 8 s = 13) : Rs A B (f_X4_doStep s σC) (f_X7_does s (A.2 43 5) σM) t e H := by
  obtain ⟨a1, a2, a3, a4, a5⟩ := ha
  obtain ⟨⟨c8, c9, c10, c11, c12⟩, ⟨m8, m9, m10, m11, m12⟩, h90⟩ := stat hS h a2
  obtain ⟨-, ok2, -, -, -, ok6, -⟩ := PR_okS hS.1.1.1 a2
  have ra := ok2 (by omega)
  have rc := ok6 (by omega)
  rw [dC13 h90 (c8.trans hk), dM13 h90 (m8.trans hk), c9, c11, m9, m11, e_varOf h ra, g_var h ra, bind_s, bind_s, ck_pos (by omega)]
  obtain ⟨v1, v2⟩ := h.2.2.2.2.1 t (Int.toNat (A.1 9 s)) (by omega) (by omega)
  obtain ⟨g, hg⟩ : ∃ g : Nat, A.1 11 s = g := ⟨Int.toNat (A.1 11 s), by omega⟩
  have e11 : ∀ y, (stI σM 25 g y).1 11 s = (g : Nat) := fun y => by rw [stI_1, if_neg (by omega), m11, hg]
  have ev : ∀ y, f_X7_var (A.1 9 s) (stI σM 25 g y) = f_X7_var (A.1 9 s) σM := fun y => rfl
  rw [hg, Int.toNat_natCast, ev, g_var h ra, bind_s, e11, ck_pos (by omega), Int.toNat_natCast]
  obtain ⟨σC', σM', w1, w2, w3⟩ := glob_sim hS h (by omega) (by omega) (g := g) (by omega) v1 (Snd_sub (by
    have := a5.2.2.2.2.2.2.2.2.2.2.1 hk
    unfold Cl13 at this
    rw [hg, Int.toNat_natCast] at this
    rw [a1]
    exact this) v2)
  exact ⟨σC', σM', w1, w2, Or.inl ⟨t, by omega, RR_H w3 (by omega) (by omega)⟩⟩
theorem rn16 {A B σC σM : Mm} {t s n : Nat} {e d H : Int} (hS : FDn A B) (h : RR A B σC σM (t + 1) e d H) (hd : d + 1 ≤ e) (ha : At A B σM t s n) (hk : A.1 8 s = 16) : Rs A B (f_X4_doStep s σC) (f_X7_does s (A.2 43 5) σM) t e H := by
  obtain ⟨a1, a2, a3, a4, a5⟩ := ha
  obtain ⟨⟨c8, c9, c10, c11, c12⟩, ⟨m8, m9, m10, m11, m12⟩, h90⟩ := stat hS h a2
  rw [dC16 h90 (c8.trans hk), dM16 h90 (m8.trans hk)]
  exact ⟨_, _, rfl, rfl, Or.inl ⟨t, by omega, RR_H h (by omega) (by omega)⟩⟩
theorem rn12 {A B σC σM : Mm} {t s n : Nat} {e d H : Int} (hS : FDn A B) (h : RR A B σC σM (t + 1) e d H) (hd : d + 1 ≤ e) (he : e ≤ 300) (ha : At A B σM t s n) (hk : A.1 8 s = 12) : Rs A B (f_X4_doStep s σC) (f_X7_does s (A.2 43 5) σM) t e H := by
  obtain ⟨a1, a2, a3, a4, a5⟩ := ha
  obtain ⟨⟨c8, c9, c10, c11, c12⟩, ⟨m8, m9, m10, m11, m12⟩, h90⟩ := stat hS h a2
  obtain ⟨-, -, -, -, -, -, -, -, -, -, ok11⟩ := PR_okS hS.1.1.1 a2
  have rb := ok11 (by omega)
  have hp := PR_place hS.1.1.1 a2
  obtain ⟨k1, k2, k3⟩ := h.2.1
  obtain ⟨⟨t0, t0', t0''⟩, -, -, -, -, -, -, -, -, ⟨t9, t10, t11⟩, -⟩ := h.2.2.1
  obtain ⟨b1, b2, b3, b4, b5⟩ := h.2.2.2.1 t (by omega)
  rw [dC12 h90 (c8.trans hk), dM12 h90 (m8.trans hk), c10]
  have hR := RR_asked h
  have C0 : f_X4_maybe_36 (A.1 10 s) 0 σC = some (stI σC 49 8 (σC.1 49 8 + 1)) := by
    unfold f_X4_maybe_36
    rw [ck_pos (by omega), ck_pos (by omega), ck_pos (by omega), if_pos rfl]
  have e44 : (stI σC 49 8 (σC.1 49 8 + 1)).1 44 0 = t + 1 := by rw [stI_1, if_neg (by omega)]; omega
  have e47 : (stI σC 49 8 (σC.1 49 8 + 1)).1 47 t = A.1 14 s + 1 := by rw [stI_1, if_neg (by omega), b4, a4]
  have C1 : f_X4_maybe_36 (A.1 10 s) 1 σC = some (stI (stI σC 49 8 (σC.1 49 8 + 1)) 47 t (A.1 14 s + 1 + A.1 10 s)) := by
    unfold f_X4_maybe_36 f_X1_topNext f_X1_goOnAt
    rw [ck_pos (by omega), ck_pos (by omega), ck_pos (by omega), if_neg (by omega), e44, ck_pos (by omega), bind_s, show Int.toNat ((t : Int) + 1 - 1) = t by omega, e47, ck_pos (by omega), ck_pos (by omega), bind_s]
  have e52 : (stI σM 0 43 (σM.1 0 43 + 1)).1 0 52 = t + 1 := by rw [stI_1, if_neg (by omega)]; omega
  have e27 : (stI σM 0 43 (σM.1 0 43 + 1)).1 27 t = A.1 14 s + 1 := by rw [stI_1, if_neg (by omega), a4]
  have e10 : (stI σM 0 43 (σM.1 0 43 + 1)).1 10 s = A.1 10 s := by rw [stI_1, if_neg (by omega), m10]
  have M0 : f_X7_does_287 s 0 σM = some (stI σM 0 43 (σM.1 0 43 + 1)) := by
    unfold f_X7_does_287
    rw [ck_pos (by omega), e52, ck_pos (by omega), if_pos rfl, show Int.toNat ((t : Int) + 1 - 1) = t by omega, e27, ck_pos (by omega), ck_pos (by omega), bind_s, st_id (by rw [e27]; omega)]
  have M1 : f_X7_does_287 s 1 σM = some (stI (stI σM 0 43 (σM.1 0 43 + 1)) 27 t (A.1 14 s + 1 + A.1 10 s)) := by
    unfold f_X7_does_287
    rw [ck_pos (by omega), e52, ck_pos (by omega), if_neg (by omega), show Int.toNat ((t : Int) + 1 - 1) = t by omega, e27, ck_pos (by omega), Int.toNat_natCast, e10, ck_pos (by omega), ck_pos (by omega), bind_s]
  have r0 : Rs A B (f_X4_maybe_36 (A.1 10 s) 0 σC) (f_X7_does_287 s 0 σM) t e H := ⟨_, _, C0, M0, Or.inl ⟨t, by omega, RR_H hR (by omega) (by omega)⟩⟩
  have r1 : Rs A B (f_X4_maybe_36 (A.1 10 s) 1 σC) (f_X7_does_287 s 1 σM) t e H := ⟨_, _, C1, M1, Or.inl ⟨t, by omega, RR_H (RR_next hR (by omega)) (by omega) (by omega)⟩⟩
  unfold f_X4_maybe
  rw [ck_pos (by omega), ck_pos (by omega)]
  by_cases h64 : 64 ≤ σM.1 0 43
  · rw [if_pos (show 64 ≤ σC.1 49 8 by omega), if_pos h64]
    exact r0
  · obtain ⟨q, hq⟩ : ∃ q : Nat, σM.1 0 43 = q := ⟨Int.toNat (σM.1 0 43), by omega⟩
    rw [if_neg (show ¬ 64 ≤ σC.1 49 8 by omega), if_neg h64, t9, hq, h.1.1.2, lUsr_bit _ (show q < 64 by omega), lbit _ (show q < 64 by omega)]
    cases hb : lb (A.2 43 5) q
    · exact r0
    · exact r1
/-! a METHOD ends -/
theorem e_stepS {σ τ : Mm} (hP : PR σ τ) {s : Nat} (hs : (s : Int) < σ.1 1 2) : f_X3_stepAt (σ.1 13 s) (σ.1 14 s) σ = some (s : Int) := by
  have h11 := hP.1.2.1
  have hp := PR_place hP hs
  obtain ⟨-, p1, p2, p3, -⟩ := hP.2.2.2.2.2.1 s hs
  unfold f_X3_stepAt
  rw [if_neg (by omega), ck_pos (by omega), if_neg (by omega), ck_pos (by omega), show Int.toNat (σ.1 13 s * 90 + σ.1 14 s) = Int.toNat (σ.1 13 s) * 90 + Int.toNat (σ.1 14 s) by omega, p3]
theorem g_stepS {σ τ : Mm} (hP : PR σ τ) {s : Nat} (hs : (s : Int) < σ.1 1 2) : τ.1 5 (Int.toNat (90 * σ.1 13 s + σ.1 14 s)) = (s : Int) := by
  have h11 := hP.1.2.1
  have hp := PR_place hP hs
  obtain ⟨-, p1, p2, p3, -⟩ := hP.2.2.2.2.2.1 s hs
  have q := ((hP.2.2.2.2.1 (Int.toNat (σ.1 13 s)) (by omega)).2.2 (by omega)).2 (Int.toNat (σ.1 14 s)) (by omega)
  rw [show Int.toNat (90 * σ.1 13 s + σ.1 14 s) = Int.toNat (σ.1 13 s) * 90 + Int.toNat (σ.1 14 s) by omega, q.1, p3]
theorem leave_sim {A B σC σM : Mm} {t : Nat} {e d H : Int} (hS : FDn A B) (h : RR A B σC σM (t + 1) e d H) (hH : H ≤ 9000) (hd : d ≤ e) (he : e ≤ 300) {c m : Int} (hc : thg (σM.1 0 46) c m) (hs : Snd σM (B.2 16 (8 * nd σM t + 6)) m) : ∃ σC' σM', f_X4_leave c σC = some σC' ∧ f_X7_ends m σM = some σM' ∧ ((1 ≤ t ∧ RR A B σC' σM' t e e (H + 3)) ∨ RE A B σC' σM') := by
  obtain ⟨k1, k2, k3⟩ := h.2.1
  have eC : σC.1 44 0 - 1 = (t : Int) := by omega
  have eM : σM.1 0 52 - 1 = (t : Int) := by omega
  unfold f_X4_leave f_X7_ends
  rw [eC, eM, ck_pos (by omega), ck_pos (by omega)]
  have e44 : (stI σC 44 0 (t : Int)).1 44 0 = t := by rw [stI_1, if_pos ⟨rfl, rfl⟩]
  have e52 : (stI σM 0 52 (t : Int)).1 0 52 = t := by rw [stI_1, if_pos ⟨rfl, rfl⟩]
  rw [e44, e52]
  rcases t with _ | u
  · rw [if_pos (by omega), if_pos (by omega), ck_pos (by omega)]
    exact ⟨_, _, rfl, rfl, Or.inr (RE_end h (by omega) hc)⟩
  have hR := RR_pop h
  obtain ⟨s, q1, q2, q3, q4, q5⟩ := h.2.2.2.2.2.1 u (by omega)
  obtain ⟨b1, b2, b3, b4, b5⟩ := hR.2.2.2.1 u (by omega)
  obtain ⟨n1, n2, n3⟩ := nd_eq hR (f := u) (by omega)
  have hP : PR (stI σC 44 0 ((u + 1 : Nat) : Int)) (stI σM 0 52 ((u + 1 : Nat) : Int)) := (FD_run hS hR.1.1 hR.1.2).1.1.1
  have lo := (FD_low hS).2.2.1
  have h11 := hS.1.1.1.1.2.1
  obtain ⟨⟨c8, c9, c10, c11, c12⟩, ⟨m8, m9, m10, m11, m12⟩, h90⟩ := stat hS hR q1
  have pl := PR_place hS.1.1.1 q1
  have p13 := (hS.1.1.1.2.2.2.2.2.1 s q1).2.1
  obtain ⟨-, ok2, -⟩ := PR_okS hS.1.1.1 q1
  have ra := ok2 (by omega)
  generalize hCg : stI σC 44 0 ((u + 1 : Nat) : Int) = σ1 at *
  generalize hMg : stI σM 0 52 ((u + 1 : Nat) : Int) = τ1 at *
  have g13 : τ1.1 13 (nd τ1 u) = A.1 13 s := by
    rw [hR.1.2.1 13 _ (by omega), q2, ← hMg]
    rfl
  have g27 : τ1.1 27 u = A.1 14 s + 1 := by rw [← q3, ← hMg]; rfl
  have c13 : σ1.1 13 s = A.1 13 s := hR.1.1.1 13 s (by omega) (by omega)
  have c14 : σ1.1 14 s = A.1 14 s := hR.1.1.1 14 s (by omega) (by omega)
  have e12 : σ1.1 1 2 = A.1 1 2 := hR.1.1.1 1 2 (by omega) (by omega)
  have st := e_stepS hP (s := s) (by omega)
  have gs := g_stepS hP (s := s) (by omega)
  rw [c13, c14] at st gs
  have hsn : Snd τ1 (B.2 16 (8 * nd τ1 u + Int.toNat (A.1 9 s))) m := by
    rw [← hMg]
    exact Snd_sub q5.2.1 hs
  have hcn : thg (τ1.1 0 46) c m := by rw [← hMg]; exact hc
  obtain ⟨σC', σM', w1', w2, w3, -⟩ := set_sim hS hR (by omega) (by omega) (v := Int.toNat (A.1 9 s)) (by omega) hcn hsn
  rw [Int.toNat_of_nonneg ra.1] at w1' w2
  refine ⟨σC', σM', ?_, ?_, ?_⟩
  · unfold f_X1_topMethod f_X1_topNext
    rw [if_neg (by omega), e44, ck_pos (by omega), bind_s, ck_pos (by omega), bind_s, show Int.toNat (((u + 1 : Nat) : Int) - 1) = u by omega, b3, b4, g27, show B.1 13 (nd τ1 u) = A.1 13 s by rw [← g13]; exact (hR.1.2.1 13 _ (by omega)).symm, show A.1 14 s + 1 - 1 = A.1 14 s by omega, ck_pos (by omega), st, bind_s, if_neg (by omega), ck_pos (by omega), Int.toNat_natCast, c9, w1']
    rfl
  · rw [if_neg (by omega), ck_pos (by omega), show Int.toNat (((u + 1 : Nat) : Int) - 1) = u by omega, n1, ck_pos (by omega), ck_pos (by omega), Int.toNat_natCast, g13, g27, show 90 * A.1 13 s + (A.1 14 s + 1) - 1 = 90 * A.1 13 s + A.1 14 s by omega, ck_pos (by omega), ck_pos (by omega), gs, ck_pos (by omega), Int.toNat_natCast, m9, w2]
    rfl
  · exact Or.inl ⟨by omega, RR_H w3 (by omega) hd⟩
