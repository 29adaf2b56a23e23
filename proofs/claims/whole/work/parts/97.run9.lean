/-! METHODS are asked and called -/
theorem nd_find {A B σC σM : Mm} {t : Nat} {e d H : Int} (hS : FDn A B) (h : RR A B σC σM t e d H) {m a b : Int} (ra : -1 ≤ a ∧ a ≤ 189) (rb : -1 ≤ b ∧ b ≤ 189) {u : Nat} (hu : (u : Int) < B.1 0 24) (h13 : B.1 13 u = m) (h14 : B.1 14 u = a) (h15 : B.1 15 u = b) (ha : σM.1 0 34 = a) (hb : σM.1 0 35 = b) : f_X5_nodeWith 15 m (pk a b) σC = some (u : Int) ∧ f_X7_nodeOf m σM = some (u : Int) := by
  have mx := h.1.2
  have hRF : RF 15 σC σM := (FD_run hS h.1.1 mx).1.1
  rcases find_node hRF (m := m) ha hb ra rb with ⟨y, y1, y2, y3, y4, y5, y6⟩ | ⟨z, -, -⟩
  · rw [mx.1 13 y (by omega)] at y2
    rw [mx.1 14 y (by omega)] at y3
    rw [mx.1 15 y (by omega)] at y4
    rw [mx.1 0 24 (by omega)] at y1
    have := hS.1.1.2.2.2.2.2.2.2.2.1 u y hu y1 (by rw [h13, y2]) (by rw [h14, y3]) (by rw [h15, y4])
    subst this
    exact ⟨y5, y6⟩
  · exact absurd ⟨(mx.1 13 u (by omega)).trans h13, (mx.1 14 u (by omega)).trans h14, (mx.1 15 u (by omega)).trans h15⟩ (z u (by rw [mx.1 0 24 (by omega)]; exact hu))
theorem e_full {σ : Mm} {t : Nat} (h : σ.1 44 0 = t) : f_X1_isFull σ = some (b01 (25 ≤ t)) := by
  unfold f_X1_isFull
  by_cases q : 25 ≤ t
  · rw [if_neg (by omega), b01_t q]
  · rw [if_pos (by omega), b01_f q]
theorem e_topN {A B σC σM : Mm} {t n : Nat} {e d H : Int} (h : RR A B σC σM (t + 1) e d H) (hn : nd σM t = n) : f_X1_topNode σC = some (n : Int) := by
  obtain ⟨k1, k2, k3⟩ := h.2.1
  obtain ⟨n1, n2, n3⟩ := nd_eq h (f := t) (by omega)
  unfold f_X1_topNode
  rw [ck_pos (by omega), show Int.toNat (σC.1 44 0 - 1) = t by omega, n2, hn]
theorem FC_here {A B σM τ' : Mm} {t s n u : Nat} {a b : Int} (ha : At A B σM t s n) (ho : OT σM τ' a b) (hk : A.1 8 s = 9 ∨ A.1 8 s = 10) (hj : JnC A B n s u) : ∀ f, f + 1 = t + 1 → FC A B (τ'.1 27 f) (nd τ' f) u := by
  intro f hf
  obtain rfl : f = t := by omega
  obtain ⟨a1, a2, a3, a4, a5⟩ := ha
  obtain ⟨-, -, o3, -⟩ := ho
  have e1 : nd τ' f = n := by unfold nd; rw [o3 26 f (by omega)]; exact a1
  rw [e1, o3 27 f (by omega)]
  exact ⟨s, a2, a3, a4, hk, hj⟩
theorem rn10 {A B σC σM : Mm} {t s n : Nat} {e d H : Int} (hS : FDn A B) (h : RR A B σC σM (t + 1) e d H) (hH : H ≤ 9000) (hd : d + 1 ≤ e) (he : e ≤ 300) (ha : At A B σM t s n) (hk : A.1 8 s = 10) : Rs A B (f_X4_doStep s σC) (f_X7_does s (A.2 43 5) σM) t e H := by
  have ha' := ha
  obtain ⟨a1, a2, a3, a4, a5⟩ := ha
  obtain ⟨⟨c8, c9, c10, c11, c12⟩, ⟨m8, m9, m10, m11, m12⟩, h90⟩ := stat hS h a2
  obtain ⟨-, -, -, -, -, -, -, -, ok9, ok10, -⟩ := PR_okS hS.1.1.1 a2
  have rd := ok9 (by omega)
  have rc := ok10 (by omega)
  clear ok9 ok10
  obtain ⟨k1, k2, k3⟩ := h.2.1
  obtain ⟨n1, n2, n3⟩ := nd_eq h (f := t) (by omega)
  rw [a1] at n1 n2 n3
  have hRF : RF 15 σC σM := (FD_run hS h.1.1 h.1.2).1.1
  have e24 := h.1.2.1 0 24 (by omega)
  have e12 : σC.1 1 2 = A.1 1 2 := h.1.1.1 1 2 (by omega) (by omega)
  obtain ⟨τ', x1, x2⟩ := g_ctxCall hRF (n := n) (s := s) (by omega)
  have hR := RR_OT h x2
  obtain ⟨u, u1, ⟨u2, u3, u4⟩, u5⟩ := a5.2.2.2.2.2.2.2.2.1 hk
  obtain ⟨q1, q2⟩ := (ctx_eqv hS.1.1 (MG_Eqv (MX_MG h.1.2)) (s : Int) (k := n) n3).1
  obtain ⟨⟨g1, g2, -⟩, -⟩ := ctx_rng hRF (n := n) (s := s) (by omega) (by omega)
  obtain ⟨f1, f2⟩ := nd_find hS hR g1 g2 u1 u2 (by rw [u3, q1]) (by rw [u4, q2]) x2.1 x2.2.1
  have cx := e_ctxCall hRF (n := n) (s := s) (by omega) (by omega)
  have vM := g_var h rd
  have vC := e_varOf h rd
  obtain ⟨v1, v2⟩ := h.2.2.2.2.1 t (Int.toNat (A.1 12 s)) (by omega) (by omega)
  have r11 : τ'.1 11 s = A.1 11 s := by rw [x2.2.2.1 11 s (by omega)]; exact m11
  have e46 : τ'.1 0 46 = σM.1 0 46 := x2.2.2.1 0 46 (by omega)
  have e22 : τ'.1 22 = σM.1 22 := by funext i; exact x2.2.2.1 22 i (by omega)
  have e52 : τ'.1 0 52 = t + 1 := by rw [x2.2.2.1 0 52 (by omega)]; omega
  rw [dC10 h90 (c8.trans hk), dM10 h90 (m8.trans hk)]
  unfold f_X4_call f_X7_calls
  simp only [ck_pos (show (0 : Int) ≤ (s : Int) ∧ (s : Int) < ((90 : Nat) : Int) by omega), Int.toNat_natCast, bind_id]
  rw [e_full k1, bind_s, c11, c12, m12, vM, bind_s, ck_pos (by omega), show Int.toNat (σM.1 0 52 - 1) = t by omega, n1, x1, bind_s, r11, f2, bind_s]
  by_cases q : 25 ≤ t + 1
  · have b0 : f_X7_begins u τ' = some (0, τ') := by unfold f_X7_begins; rw [if_pos (by omega)]
    rw [b01_t q, if_neg (by omega), b0, bind_s, if_pos rfl]
    exact Rs_fail hR (by omega) he (by omega) s
  · obtain ⟨σC', σM0, σM1, σM', w1, w2, w3, w4, w5, w6, w7⟩ := enter_sim hS hR hH (by omega) (by omega) u1 (FC_here ha' x2 (Or.inr hk) u5) (c1 := -9) (m1 := -1) (RR_n hR) Snd_n (c2 := σC.1 48 (6 * t + Int.toNat (A.1 12 s))) (m2 := σM.1 28 (6 * t + Int.toNat (A.1 12 s))) (by rw [e46]; exact v1) (by unfold Snd; rw [e22]; exact Snd_sub (by rw [a1]; exact u5.1) v2)
    have w6' := w6 rfl
    subst w6'
    have nc : f_X4_nodeCalled (A.1 11 s) s σC = some (u : Int) := by
      unfold f_X4_nodeCalled
      rw [e_topN h a1, bind_s, if_pos (by omega), cx, bind_s, f1, bind_s]
    rw [b01_f q, if_pos rfl, nc, bind_s, vC, bind_s, w2, bind_s, if_neg (show ¬ (1 : Int) = 0 by omega)]
    rw [u2] at w1
    exact ⟨σC', σM', w1, w4, Or.inl ⟨t + 1, by omega, RR_H w5 (by omega) (by omega)⟩⟩
theorem rn9 {A B σC σM : Mm} {t s n : Nat} {e d H : Int} (hS : FDn A B) (h : RR A B σC σM (t + 1) e d H) (hH : H ≤ 9000) (hd : d + 1 ≤ e) (he : e ≤ 300) (ha : At A B σM t s n) (hk : A.1 8 s = 9) : Rs A B (f_X4_doStep s σC) (f_X7_does s (A.2 43 5) σM) t e H := by
  have ha' := ha
  obtain ⟨a1, a2, a3, a4, a5⟩ := ha
  obtain ⟨⟨c8, c9, c10, c11, c12⟩, ⟨m8, m9, m10, m11, m12⟩, h90⟩ := stat hS h a2
  obtain ⟨-, -, -, -, ok5, -, ok7, -, ok9, -, -⟩ := PR_okS hS.1.1.1 a2
  have rb := ok5 (by omega)
  have rc := ok7 (by omega)
  have rd := ok9 (by omega)
  clear ok5 ok7 ok9
  obtain ⟨k1, k2, k3⟩ := h.2.1
  obtain ⟨n1, n2, n3⟩ := nd_eq h (f := t) (by omega)
  rw [a1] at n1 n2 n3
  have hRF : RF 15 σC σM := (FD_run hS h.1.1 h.1.2).1.1
  have h10 := hS.1.1.1.1.1
  have e24 := h.1.2.1 0 24 (by omega)
  have e29 := h.1.2.1 0 29 (by omega)
  have e10 : σC.1 1 0 = A.1 1 0 := h.1.1.1 1 0 (by omega) (by omega)
  have e12 : σC.1 1 2 = A.1 1 2 := h.1.1.1 1 2 (by omega) (by omega)
  have vM := g_var h rb
  have vC := e_varOf h rb
  have dM := g_var h rd
  have dC := e_varOf h rd
  obtain ⟨v1, v2⟩ := h.2.2.2.2.1 t (Int.toNat (A.1 10 s)) (by omega) (by omega)
  obtain ⟨u1, u2⟩ := h.2.2.2.2.1 t (Int.toNat (A.1 12 s)) (by omega) (by omega)
  rw [dC9 h90 (c8.trans hk), dM9 h90 (m8.trans hk), c10, vC, bind_s]
  unfold f_X4_ask f_X7_asks
  simp only [ck_pos (show (0 : Int) ≤ (s : Int) ∧ (s : Int) < ((90 : Nat) : Int) by omega), Int.toNat_natCast, bind_id]
  rw [m10, m11, m12, c11, c12, vM, bind_s, dM, bind_s]
  generalize σC.1 48 (6 * t + Int.toNat (A.1 10 s)) = c at *
  generalize σM.1 28 (6 * t + Int.toNat (A.1 10 s)) = m at *
  generalize hc' : σC.1 48 (6 * t + Int.toNat (A.1 12 s)) = c' at *
  generalize hm' : σM.1 28 (6 * t + Int.toNat (A.1 12 s)) = m' at *
  obtain ⟨q1, q2⟩ := thg_m v1
  obtain ⟨p, hp⟩ : ∃ p : Nat, A.1 11 s = p := ⟨Int.toNat (A.1 11 s), by omega⟩
  by_cases hm : m < 0
  · rw [if_pos (q1.mpr hm), if_neg (show ¬ 0 ≤ m by omega)]
    exact Rs_fail h (by omega) he (by omega) s
  have hmN := v1.1.2
  obtain ⟨i, rfl⟩ : ∃ i : Nat, m = i := ⟨Int.toNat m, by omega⟩
  obtain rfl : c = (i : Int) := q2 (by omega)
  obtain ⟨x, k, x1, x2, x3, x4, j1, j2, j3, j4, j5, j6, j7, j8, j9, j10, j11, j12⟩ := ob_all hS h (by omega) (i := i) hmN
  have hP := hRF.1
  have r5 : σC.1 5 = A.1 5 := CX_row h.1.1 (by omega)
  have gm := g_methodFor hP.1 hP.2.1 hP.2.2.1 hP.2.2.2.1 (c := mcl A k) (e := p) (by omega) (by omega)
  have em := e_methodFor (σ := σC) (c := mcl A k) (e := p) (by omega) (by omega)
  rw [r5] at gm em
  have hmt : mnt A B s x = A.1 5 (mcl A k * 8 + p) := by unfold mnt; rw [j5, hp, Int.toNat_natCast]
  rw [← hmt] at gm em
  simp only [ck_pos (show (0 : Int) ≤ (i : Int) ∧ (i : Int) < ((300 : Nat) : Int) by omega), Int.toNat_natCast]
  rw [if_neg (show ¬ (i : Int) = -9 by omega), if_pos (show 0 ≤ (i : Int) by omega), j12, bind_s, hp, em, bind_s, j7, gm, bind_s]
  by_cases hmn : 0 ≤ mnt A B s x
  · rw [if_pos hmn, if_pos hmn]
    have v2' := v2 (by omega)
    rw [Int.toNat_natCast, x1, Int.toNat_natCast, a1] at v2'
    obtain ⟨w, w1, ⟨w2, w3, w4⟩, w5, w6⟩ := a5.2.2.2.2.2.2.2.1 hk x x3 v2' hmn
    obtain ⟨τ', y1, y2⟩ := g_ctxAsk hRF (n := n) (s := s) (y := x) (by omega) (by omega)
    have hR := RR_OT h y2
    obtain ⟨z1, z2⟩ := (ctx_eqv hS.1.1 (MG_Eqv (MX_MG h.1.2)) (s : Int) (k := n) n3).2 x x3
    obtain ⟨g1, g2, -⟩ := (ctx_rng hRF (n := n) (s := s) (by omega) (by omega)).2 x (by omega)
    obtain ⟨f1, f2⟩ := nd_find hS hR g1 g2 w1 w2 (by rw [w3, z1]) (by rw [w4, z2]) y2.1 y2.2.1
    have cx := e_ctxAsk hRF (n := n) (s := s) (y := x) (by omega) (by omega) (by omega)
    have e46 : τ'.1 0 46 = σM.1 0 46 := y2.2.2.1 0 46 (by omega)
    have e22 : τ'.1 22 = σM.1 22 := by funext i; exact y2.2.2.1 22 i (by omega)
    have e52 : τ'.1 0 52 = t + 1 := by rw [y2.2.2.1 0 52 (by omega)]; omega
    rw [e_full k1, bind_s, ck_pos (show (0 : Int) ≤ σM.1 0 52 - 1 ∧ σM.1 0 52 - 1 < ((25 : Nat) : Int) by omega), show Int.toNat (σM.1 0 52 - 1) = t by omega, n1, x1, y1, bind_s, f2, bind_s]
    by_cases q : 25 ≤ t + 1
    · have b0 : f_X7_begins w τ' = some (0, τ') := by unfold f_X7_begins; rw [if_pos (by omega)]
      rw [b01_t q, if_neg (by omega), b0, bind_s, if_pos rfl]
      exact Rs_fail hR (by omega) he (by omega) s
    · obtain ⟨σC', σM0, σM1, σM', t1, t2, t3, t4, t5, t6, t7⟩ := enter_sim hS hR hH (by omega) (by omega) w1 (FC_here ha' y2 (Or.inl hk) w6) (c1 := i) (m1 := i) (by rw [e46]; exact v1) (fun _ => by rw [Int.toNat_natCast, e22, x1, Int.toNat_natCast]; exact w5) (c2 := c') (m2 := m') (by rw [e46]; exact u1) (by unfold Snd; rw [e22]; exact Snd_sub (by rw [a1]; exact w6.1) u2)
      have na : f_X4_nodeAsked (mnt A B s x) s x σC = some (w : Int) := by
        unfold f_X4_nodeAsked
        rw [e_topN h a1, bind_s, if_neg (by omega), if_pos (by omega), cx, bind_s, f1, bind_s]
      rw [b01_f q, if_pos rfl, x2, na, bind_s, dC, bind_s, t2, bind_s, if_neg (show ¬ (1 : Int) = 0 by omega), t3, bind_s]
      rw [w2] at t1
      exact ⟨σC', σM', t1, t4, Or.inl ⟨t + 1, by omega, RR_H t5 (by omega) (by omega)⟩⟩
  · rw [if_neg hmn, if_neg hmn]
    exact Rs_fail h (by omega) he (by omega) s
