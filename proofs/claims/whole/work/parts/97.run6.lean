theorem rn11 {A B σC σM : Mm} {t s n : Nat} {e d H : Int} (hS : FDn A B) (h : RR A B σC σM (t + 1) e d H) (hH : H ≤ 9000) (hd : d + 1 ≤ e) (he : e ≤ 300) (ha : At A B σM t s n) (hk : A.1 8 s = 11) : Rs A B (f_X4_doStep s σC) (f_X7_does s (A.2 43 5) σM) t e H := by
  obtain ⟨a1, a2, a3, a4, a5⟩ := ha
  obtain ⟨⟨c8, c9, c10, c11, c12⟩, ⟨m8, m9, m10, m11, m12⟩, h90⟩ := stat hS h a2
  obtain ⟨-, ok2, -⟩ := PR_okS hS.1.1.1 a2
  have ra := ok2 (by omega)
  rw [dC11 h90 (c8.trans hk), dM11 h90 (m8.trans hk), c9, m9, e_varOf h ra, g_var h ra, bind_s, bind_s]
  obtain ⟨v1, v2⟩ := h.2.2.2.2.1 t (Int.toNat (A.1 9 s)) (by omega) (by omega)
  obtain ⟨σC', σM', w1, w2, w3⟩ := leave_sim hS h hH (by omega) he v1 (Snd_sub (by rw [a1]; exact a5.2.2.2.2.2.2.2.2.2.1 hk) v2)
  refine ⟨σC', σM', w1, w2, ?_⟩
  rcases w3 with ⟨w3, w4⟩ | w3
  · obtain ⟨u, rfl⟩ : ∃ u, t = u + 1 := ⟨t - 1, by omega⟩
    exact Or.inl ⟨u, by omega, w4⟩
  · exact Or.inr w3
/-! MAKE and ROW -/
theorem mk_sim {A B σC σM : Mm} {t s n : Nat} {e d H : Int} (hS : FDn A B) (h : RR A B σC σM (t + 1) e d H) (hH : H ≤ 9000) (hd : d + 1 ≤ e) (he : e ≤ 300) (ha : At A B σM t s n) (hk : A.1 8 s ≤ 1) : Rs A B (f_X4_make s σC) (f_X7_makes (A.1 9 s) s σM) t e H := by
  obtain ⟨a1, a2, a3, a4, a5⟩ := ha
  obtain ⟨⟨c8, c9, c10, c11, c12⟩, ⟨m8, m9, m10, m11, m12⟩, h90⟩ := stat hS h a2
  obtain ⟨ok1, ok2, ok3, -⟩ := PR_okS hS.1.1.1 a2
  have ra := ok2 (by omega)
  have rb := ok3 (by omega)
  obtain ⟨k1, k2, k3⟩ := h.2.1
  have lo := (FD_low hS).2.2
  obtain ⟨x, x1, x2, x3, x4⟩ := a5.1 hk
  obtain ⟨⟨t0, t0', t0''⟩, -⟩ := h.2.2.1
  obtain ⟨o, ho⟩ : ∃ o : Nat, σM.1 0 46 = o := ⟨Int.toNat (σM.1 0 46), by omega⟩
  obtain ⟨n1, n2, n3⟩ := nd_eq h (f := t) (by omega)
  rw [a1] at n1 n2 n3
  have mx15 : MX B (stI (stI σM 21 o s) 23 o n) := MX_st (MX_st h.1.2 (by omega)) (by omega)
  have hRF : RF 15 σC (stI (stI σM 21 o s) 23 o n) := RF_gen hS.1.1 (KC_AG (CX_KC h.1.1)) (MX_MG mx15)
  have nm : f_X5_nameWith 15 n s σC = some (x : Int) ∧ f_X7_nameOf s n (stI (stI σM 21 o s) 23 o n) = some (x : Int) := by
    rcases find_name hRF (n : Int) (s : Int) with ⟨y, y1, y2, y3, y4, y5⟩ | ⟨z, -, -⟩
    · rw [mx15.1 17 y (by omega)] at y2
      rw [mx15.1 18 y (by omega)] at y3
      rw [mx15.1 0 29 (by omega)] at y1
      have := hS.1.1.2.2.2.2.2.2.2.2.2 x y x1 y1 (by rw [x2, y2]) (by rw [x3, y3])
      subst this
      exact ⟨y4, y5⟩
    · exact absurd ⟨(mx15.1 17 x (by omega)).trans x2, (mx15.1 18 x (by omega)).trans x3⟩ (z x (by rw [mx15.1 0 29 (by omega)]; exact x1))
  obtain ⟨r, p1, p2⟩ := e_add (t0.trans ho) (by omega) s x n
  have hM : ∃ σ', f_X7_makes (A.1 9 s) s σM = (f_X7_becomes (A.1 9 s) o σ').bind (fun r6 => some r6) ∧ AdM σM σ' o s x n (mcl A s : Nat) := by
    have e46 : ∀ y, (stI σM 21 o y).1 0 46 = o := fun y => by rw [stI_1, if_neg (by omega)]; exact ho
    have e46' : (stI (stI σM 21 o s) 23 o n).1 0 46 = o := by rw [stI_1, if_neg (by omega)]; exact e46 s
    have e46'' : ∀ y, (stI (stI (stI σM 21 o s) 23 o n) 22 o y).1 0 46 = o := fun y => by rw [stI_1, if_neg (by omega)]; exact e46'
    have e8 : ∀ y, (stI (stI (stI σM 21 o s) 23 o n) 22 o y).1 8 s = A.1 8 s := fun y => by rw [stI_1, if_neg (by omega), stI_1, if_neg (by omega), stI_1, if_neg (by omega), m8]
    have e10 : ∀ y, (stI (stI (stI σM 21 o s) 23 o n) 22 o y).1 10 s = A.1 10 s := fun y => by rw [stI_1, if_neg (by omega), stI_1, if_neg (by omega), stI_1, if_neg (by omega), m10]
    have em : f_X7_makes (A.1 9 s) s σM = f_X7_makes_79 2000 (A.1 9 s) 0 (stI (stI (stI (stI σM 21 o s) 23 o n) 22 o x) 29 o (mcl A s : Nat)) := by
      unfold f_X7_makes
      rw [ck_pos (by omega), ho, ck_pos (by omega), Int.toNat_natCast, e46, ck_pos (by omega), bind_s, Int.toNat_natCast, show Int.toNat (σM.1 0 52 - 1) = t by omega, n1, nm.2, bind_s, e46', ck_pos (by omega), ck_pos (by omega), Int.toNat_natCast, Int.toNat_natCast, e46'', e8, e10]
      unfold mcl
      by_cases hr : A.1 8 s = 1
      · rw [if_pos hr, if_pos hr, ck_pos (by omega), bind_s]
        rfl
      · rw [if_neg hr, if_neg hr, ck_pos (by omega), ck_pos (by omega), bind_s, Int.toNat_natCast, Int.toNat_of_nonneg rb.1]
    obtain ⟨σ', w1, w2, w3, w4, w5⟩ := g_make79 (o := o) (by omega) (A.1 9 s) 5 2000 0 (stI (stI (stI (stI σM 21 o s) 23 o n) 22 o x) 29 o (mcl A s : Nat)) (by rw [stI_1, if_neg (by omega)]; exact e46'' x) (by omega) (by omega)
    refine ⟨σ', em.trans w1, ⟨w2, ?_, ?_, ?_, ?_, fun p hp => w3 _ (by omega) (by omega)⟩, fun a i q1 q2 q3 => ?_, w5⟩
    · rw [w4 21 o (by omega) (by omega), stI_1, if_neg (by omega), stI_1, if_neg (by omega), stI_1, if_neg (by omega), stI_1, if_pos ⟨rfl, rfl⟩]
    · rw [w4 22 o (by omega) (by omega), stI_1, if_neg (by omega), stI_1, if_pos ⟨rfl, rfl⟩]
    · rw [w4 23 o (by omega) (by omega), stI_1, if_neg (by omega), stI_1, if_neg (by omega), stI_1, if_pos ⟨rfl, rfl⟩]
    · rw [w4 29 o (by omega) (by omega), stI_1, if_pos ⟨rfl, rfl⟩]
    · rw [w4 a i q1 (by omega), stI_1, if_neg (by omega), stI_1, if_neg (by omega), stI_1, if_neg (by omega), stI_1, if_neg (by omega)]
  obtain ⟨σ', v1, v2⟩ := hM
  have hR := RR_add h ho a2 hk x1 x2 p2 v2
  have nn : nd σ' t = n := by unfold nd; rw [v2.2.1 26 t (by omega) (by omega) (by omega), n1]; exact Int.toNat_natCast n
  obtain ⟨σC', σM', w1, w2, w3⟩ := Rs_set hS hR hH hd he ra (c := o) (m := o) (by rw [v2.1.1]; exact ⟨⟨by omega, by omega⟩, by rw [if_neg (by omega)]⟩) (fun _ => by rw [Int.toNat_natCast, v2.1.2.2.1, Int.toNat_natCast, nn]; exact x4)
  refine ⟨σC', σM', ?_, ?_, w3⟩
  · unfold f_X4_make f_X1_topNode
    rw [ck_pos (by omega), bind_s, show Int.toNat (σC.1 44 0 - 1) = t by omega, n2, nm.1, bind_s, p1, bind_s, ck_pos (by omega), ck_pos (by omega), Int.toNat_natCast, p2.2.1 9 s (by omega) (by omega) (by omega) (by omega), c9, w1]
    rfl
  · rw [v1, w2]
    rfl
theorem rn0 {A B σC σM : Mm} {t s n : Nat} {e d H : Int} (hS : FDn A B) (h : RR A B σC σM (t + 1) e d H) (hH : H ≤ 9000) (hd : d + 1 ≤ e) (he : e ≤ 300) (ha : At A B σM t s n) (hk : A.1 8 s = 0) : Rs A B (f_X4_doStep s σC) (f_X7_does s (A.2 43 5) σM) t e H := by
  obtain ⟨⟨c8, c9, c10, c11, c12⟩, ⟨m8, m9, m10, m11, m12⟩, h90⟩ := stat hS h ha.2.1
  rw [dC0 h90 (c8.trans hk), dM0 h90 (m8.trans hk), m9]
  exact mk_sim hS h hH hd he ha (by omega)
theorem rn1 {A B σC σM : Mm} {t s n : Nat} {e d H : Int} (hS : FDn A B) (h : RR A B σC σM (t + 1) e d H) (hH : H ≤ 9000) (hd : d + 1 ≤ e) (he : e ≤ 300) (ha : At A B σM t s n) (hk : A.1 8 s = 1) : Rs A B (f_X4_doStep s σC) (f_X7_does s (A.2 43 5) σM) t e H := by
  obtain ⟨⟨c8, c9, c10, c11, c12⟩, ⟨m8, m9, m10, m11, m12⟩, h90⟩ := stat hS h ha.2.1
  rw [dC1 h90 (c8.trans hk), dM1 h90 (m8.trans hk), m9]
  exact mk_sim hS h hH hd he ha (by omega)
/-! what an OBJECT is -/
def rw1 (A σM : Mm) (i : Nat) : Prop := A.1 8 (Int.toNat (σM.1 21 i)) = 1
theorem ob_all {A B σC σM : Mm} {t : Nat} {e d H : Int} (hS : FDn A B) (h : RR A B σC σM t e d H) (hd : d ≤ 300) {i : Nat} (hi : (i : Int) < σM.1 0 46) : ∃ x k : Nat, σM.1 22 i = x ∧ σC.1 52 i = x ∧ (x : Int) < B.1 0 29 ∧ x < 60 ∧ σM.1 21 i = k ∧ σC.1 51 i = k ∧ (k : Int) < A.1 1 2 ∧ k < 90 ∧ xst B x = k ∧ A.1 8 k ≤ 1 ∧ σM.1 29 i = (mcl A k : Nat) ∧ ((mcl A k : Nat) : Int) < A.1 1 0 ∧ i < 300 ∧ f_X2_isRow i σC = some (b01 (A.1 8 k = 1)) ∧ f_X7_isRowNow i σM = some (b01 (A.1 8 k = 1)) ∧ f_X2_classOf i σC = some ((mcl A k : Nat) : Int) := by
  have hp := RR_Hp h i hi
  have hP : PR σC σM := (FD_run hS h.1.1 h.1.2).1.1.1
  have lo := (FD_low hS).2.2.2
  have h12 := hS.1.1.1.1.2.2.1
  obtain ⟨⟨t0, t0', t0''⟩, -⟩ := h.2.2.1
  obtain ⟨o1, o2, o3, o4, o5, o6⟩ := h.2.2.2.2.2.2.1 i hi
  have hi3 : i < 300 := by omega
  have r1 := e_isRowO hP hi3 hp
  have r2 := g_isRowNow hP hi3 hp
  have r3 := e_classO hP hi3 hp
  rw [CX_row h.1.1 (by omega)] at r1 r2
  obtain ⟨k, hk⟩ : ∃ k : Nat, σM.1 21 i = k := ⟨Int.toNat (σM.1 21 i), by omega⟩
  obtain ⟨x, hx⟩ : ∃ x : Nat, σM.1 22 i = x := ⟨Int.toNat (σM.1 22 i), by omega⟩
  rw [hk, Int.toNat_natCast] at r1 r2 o3 o4
  rw [hx, hk, Int.toNat_natCast] at o6
  refine ⟨x, k, hx, o1.2.1.trans hx, by omega, by omega, hk, o1.1.trans hk, by omega, by omega, ?_, o3, o4, mcl_lt hS.1.1.1 (by omega) o3, hi3, r1, r2, r3.trans (congrArg some o4)⟩
  unfold xst
  omega
