/-! what is held is held against what was found -/
def KV (j : Nat) (σM σM' : Mm) : Prop := ∀ k i, ¬ (k = 28 ∧ i = j) → ¬ (k = 0 ∧ (i = 44 ∨ i = 45)) → σM'.1 k i = σM.1 k i
theorem tally_sim {A B σC σM : Mm} {t : Nat} {e d H : Int} (hS : FDn A B) (h : RR A B σC σM t e d H) (hH : H ≤ 10000) (hd : d ≤ 300) {c m : Int} {bits : Int64} (hc : thg (σM.1 0 46) c m) (hs : Snd σM bits m) : ∃ σC' σM', f_X4_tallyHold c bits σC = some σC' ∧ f_X7_counts m bits σM = some σM' ∧ RR A B σC' σM' t e d (H + 1) ∧ (∀ j, KV j σM σM') ∧ (m < 0 → σM' = σM) := by
  obtain ⟨q1, q2⟩ := thg_m hc
  by_cases hm : m < 0
  · unfold f_X4_tallyHold f_X7_counts
    rw [if_pos (q1.mpr hm), if_pos hm]
    exact ⟨σC, σM, rfl, rfl, RR_H h (by omega) (by omega), fun _ _ _ _ _ => rfl, fun _ => rfl⟩
  obtain rfl : c = m := q2 (by omega)
  have x0 := hc.1.2
  obtain ⟨⟨t0, t0', t0''⟩, -, -, -, ⟨t4, t5, t6⟩, ⟨t7, t8⟩, -⟩ := h.2.2.1
  obtain ⟨o1, -, -, -, o5, -⟩ := h.2.2.2.2.2.2.1 (Int.toNat c) (by omega)
  have lo := (FD_low hS).2.2.2
  have mx := h.1.2
  have e52 : (stI σC 49 3 (σC.1 49 3 + 1)).1 52 (Int.toNat c) = σM.1 22 (Int.toNat c) := by rw [stI_1, if_neg (by omega)]; exact o1.2.1
  have e22 : (stI σM 0 44 (σM.1 0 44 + 1)).1 22 (Int.toNat c) = σM.1 22 (Int.toNat c) := by rw [stI_1, if_neg (by omega)]
  have e29 : (stI σM 0 44 (σM.1 0 44 + 1)).1 0 29 = B.1 0 29 := by rw [stI_1, if_neg (by omega)]; exact mx.1 0 29 (by omega)
  have e45 : (stI σM 0 44 (σM.1 0 44 + 1)).1 0 45 = 0 := by rw [stI_1, if_neg (by omega)]; exact t8
  obtain ⟨x, hx⟩ : ∃ x : Nat, σM.1 22 (Int.toNat c) = x := ⟨Int.toNat (σM.1 22 (Int.toNat c)), by omega⟩
  have hb : lb bits x = true := by
    have := hs (by omega)
    rw [hx, Int.toNat_natCast] at this
    exact this
  have hC : f_X4_tallyHold c bits σC = some (stI σC 49 3 (σC.1 49 3 + 1)) := by
    unfold f_X4_tallyHold
    rw [if_neg (show ¬ c = -9 by omega), ck_pos (by omega), ck_pos (by omega), ck_pos (by omega), ck_pos (by omega), e52, hx, if_neg (by omega), if_neg (fun z => by rw [(lbit0 bits (by omega)).mp z] at hb; cases hb)]
  have hM : f_X7_counts c bits σM = some (stI (stI σM 0 44 (σM.1 0 44 + 1)) 0 45 0) := by
    unfold f_X7_counts
    rw [if_neg hm, ck_pos (by omega), ck_pos (by omega), e29, e22, hx, if_neg (by omega), ck_pos (by omega), if_pos ((lbit1 bits (by omega)).mpr hb), e45, ck_pos (by omega), bind_s]
    rfl
  exact ⟨_, _, hC, hM, RR_tally h, fun _ k i z1 z2 => by rw [stI_1, if_neg (by omega), stI_1, if_neg (by omega)], fun z => absurd z hm⟩
theorem nd_eq {A B σC σM : Mm} {t : Nat} {e d H : Int} (h : RR A B σC σM t e d H) {f : Nat} (hf : f < t) : σM.1 26 f = (nd σM f : Nat) ∧ σC.1 46 f = (nd σM f : Nat) ∧ ((nd σM f : Nat) : Int) < B.1 0 24 := by
  obtain ⟨a1, a2, -⟩ := h.2.2.2.1 f hf
  unfold nd
  omega
theorem e_varOf {A B σC σM : Mm} {t : Nat} {e d H : Int} (h : RR A B σC σM (t + 1) e d H) {v : Int} (hv : 0 ≤ v ∧ v < 6) : f_X1_varOf v σC = some (σC.1 48 (6 * t + Int.toNat v)) := by
  have k := h.2.1
  unfold f_X1_varOf
  rw [ck_pos (by omega), show Int.toNat ((σC.1 44 0 - 1) * 6 + v) = 6 * t + Int.toNat v by omega]
theorem g_var {A B σC σM : Mm} {t : Nat} {e d H : Int} (h : RR A B σC σM (t + 1) e d H) {v : Int} (hv : 0 ≤ v ∧ v < 6) : f_X7_var v σM = some (σM.1 28 (6 * t + Int.toNat v)) := by
  have k := h.2.1
  unfold f_X7_var
  rw [ck_pos (by omega), show Int.toNat (6 * (σM.1 0 52 - 1) + v) = 6 * t + Int.toNat v by omega]
theorem set_sim {A B σC σM : Mm} {t : Nat} {e d H : Int} (hS : FDn A B) (h : RR A B σC σM (t + 1) e d H) (hH : H ≤ 10000) (hd : d ≤ 300) {v : Nat} (hv : v < 6) {c m : Int} (hc : thg (σM.1 0 46) c m) (hs : Snd σM (B.2 16 (8 * nd σM t + v)) m) : ∃ σC' σM', f_X4_setVar v c σC = some σC' ∧ f_X7_becomes v m σM = some σM' ∧ RR A B σC' σM' (t + 1) e d (H + 1) ∧ KV (6 * t + v) σM σM' ∧ (m < 0 → σM.1 28 (6 * t + v) = m → σM' = σM) := by
  obtain ⟨σC', σM', w1, w2, w3, w4, w5⟩ := tally_sim hS (RR_var h hv hc hs) hH hd (c := c) (m := m) (bits := B.2 16 (8 * nd σM t + v)) hc hs
  obtain ⟨n1, n2, n3⟩ := nd_eq h (f := t) (by omega)
  have k := h.2.1
  have lo := (FD_low hS).2.2.1
  have e44 : (stI σC 48 (6 * t + v) c).1 44 0 = t + 1 := by rw [stI_1, if_neg (by omega)]; omega
  have e46 : (stI σC 48 (6 * t + v) c).1 46 t = (nd σM t : Nat) := by rw [stI_1, if_neg (by omega)]; exact n2
  have eh : (stI σC 48 (6 * t + v) c).2 (15 + 1) (8 * nd σM t + v) = B.2 16 (8 * nd σM t + v) := by
    rw [stI_2, h.1.1.2]
    exact (hS.1.1.2.2.2.2.1 (nd σM t) v n3 (by omega)).1
  have e52 : (stI σM 28 (6 * t + v) m).1 0 52 = t + 1 := by rw [stI_1, if_neg (by omega)]; omega
  have e26 : (stI σM 28 (6 * t + v) m).1 26 t = (nd σM t : Nat) := by rw [stI_1, if_neg (by omega)]; exact n1
  have em : (stI σM 28 (6 * t + v) m).2 16 (8 * nd σM t + v) = B.2 16 (8 * nd σM t + v) := by rw [stI_2, h.1.2.2]
  refine ⟨σC', σM', ?_, ?_, w3, fun k i q1 q2 => by rw [w4 _ k i q1 q2, stI_1, if_neg (by omega)], fun z1 z2 => by rw [w5 z1, st_id z2]⟩
  · unfold f_X4_setVar f_X1_setVar f_X1_topNode
    rw [ck_pos (by omega), show Int.toNat ((σC.1 44 0 - 1) * 6 + v) = 6 * t + v by omega, bind_s, e44, ck_pos (by omega), show Int.toNat ((t : Int) + 1 - 1) = t by omega, bind_s, e46, if_pos (by omega), e_setOf (by omega) (by omega), bind_s, eh, w1]
    rfl
  · unfold f_X7_becomes
    rw [ck_pos (by omega), show Int.toNat (6 * (σM.1 0 52 - 1) + v) = 6 * t + v by omega, e52, ck_pos (by omega), show Int.toNat ((t : Int) + 1 - 1) = t by omega, e26, ck_pos (by omega), show Int.toNat (8 * ((nd σM t : Nat) : Int) + v) = 8 * nd σM t + v by omega, em, w2]
    rfl
theorem inside_sim {A B σC σM : Mm} {t : Nat} {e d H : Int} (hS : FDn A B) (h : RR A B σC σM t e d H) (hH : H ≤ 10000) (hd : d ≤ 300) {i p x fl : Nat} (hi : (i : Int) < σM.1 0 46) (hp : p < 5) (hx : σM.1 22 i = x) (hfl : fl = if A.1 8 (Int.toNat (σM.1 21 i)) = 1 then 4 else p) {c m : Int} (hc : thg (σM.1 0 46) c m) (hs : Snd σM (B.2 19 (5 * x + fl)) m) : ∃ σC' σM', f_X4_setInside i p fl c σC = some σC' ∧ f_X7_counts m (B.2 19 (5 * x + fl)) (stI σM 24 (5 * i + p) m) = some σM' ∧ RR A B σC' σM' t e d (H + 1) := by
  obtain ⟨⟨t0, t0', t0''⟩, -⟩ := h.2.2.1
  obtain ⟨o1, -, -, -, o5, -⟩ := h.2.2.2.2.2.2.1 i hi
  have lo := (FD_low hS).2.2.2
  have h5 : fl < 5 := by rw [hfl]; split <;> omega
  obtain ⟨σC', σM', w1, w2, w3, w4, w5⟩ := tally_sim hS (RR_slot h (i := i) hp hc (by rw [hx, Int.toNat_natCast, ← hfl]; exact hs)) hH hd (c := c) (m := m) (bits := B.2 19 (5 * x + fl)) hc hs
  have e52 : (stI σC 54 (5 * i + p) c).1 52 i = x := by rw [stI_1, if_neg (by omega), o1.2.1]; exact hx
  have eh : (stI σC 54 (5 * i + p) c).2 (15 + 2) (5 * x + fl) = B.2 19 (5 * x + fl) := by
    rw [stI_2, h.1.1.2]
    exact (hS.1.1.2.2.2.2.2.1 x fl (by omega) h5).1
  refine ⟨σC', σM', ?_, w2, w3⟩
  unfold f_X4_setInside
  rw [ck_pos (by omega), ck_pos (by omega), show Int.toNat ((i : Int) * 5 + p) = 5 * i + p by omega, Int.toNat_natCast, e52, if_pos (by omega), e_insideOf (by omega) h5, bind_s, eh, w1]
  rfl
theorem glob_sim {A B σC σM : Mm} {t : Nat} {e d H : Int} (hS : FDn A B) (h : RR A B σC σM t e d H) (hH : H ≤ 10000) (hd : d ≤ 300) {g : Nat} (hg : g < 4) {c m : Int} (hc : thg (σM.1 0 46) c m) (hs : Snd σM (B.2 20 g) m) : ∃ σC' σM', f_X4_setGlobal g c σC = some σC' ∧ f_X7_counts m ((stI σM 25 g m).2 20 g) (stI σM 25 g m) = some σM' ∧ RR A B σC' σM' t e d (H + 1) := by
  obtain ⟨σC', σM', w1, w2, w3, w4, w5⟩ := tally_sim hS (RR_glob h (g := g) hc hs) hH hd (c := c) (m := m) (bits := B.2 20 g) hc hs
  have eh : (stI σC 55 g c).2 18 g = B.2 20 g := by
    rw [stI_2, h.1.1.2]
    exact (hS.1.1.2.2.2.2.2.2.1 g hg).1
  have em : (stI σM 25 g m).2 20 g = B.2 20 g := by rw [stI_2, h.1.2.2]
  refine ⟨σC', σM', ?_, by rw [em]; exact w2, w3⟩
  unfold f_X4_setGlobal
  rw [ck_pos (by omega), ck_pos (by omega), Int.toNat_natCast, eh, w1]
  rfl
theorem enter_sim {A B σC σM : Mm} {t : Nat} {e d H : Int} (hS : FDn A B) (h : RR A B σC σM t e d H) (hH : H ≤ 9000) (hd : d ≤ 300) (ht : t < 25) {n : Nat} (hn : (n : Int) < B.1 0 24) (hch : ∀ f, f + 1 = t → FC A B (σM.1 27 f) (nd σM f) n) {c1 m1 c2 m2 : Int} (hc1 : thg (σM.1 0 46) c1 m1) (hs1 : Snd σM (B.2 16 (8 * n + 0)) m1) (hc2 : thg (σM.1 0 46) c2 m2) (hs2 : Snd σM (B.2 16 (8 * n + 1)) m2) : ∃ σC' σM0 σM1 σM', f_X4_enter (B.1 13 n) n c1 c2 σC = some σC' ∧ f_X7_begins n σM = some (1, σM0) ∧ f_X7_becomes 0 m1 σM0 = some σM1 ∧ f_X7_becomes 1 m2 σM1 = some σM' ∧ RR A B σC' σM' (t + 1) e d (H + 2) ∧ (m1 = -1 → σM1 = σM0) ∧ (m2 = -1 → σM' = σM1) := by
  obtain ⟨k1, k2, k3⟩ := h.2.1
  obtain ⟨r, p1, p2⟩ := e_push k1 ht (B.1 13 n) n
  obtain ⟨σM0, p3, p4⟩ := g_begins k2 ht n
  have hR := RR_push h ht hn hch p2 p4
  obtain ⟨⟨m1', m2', m3', m4', m5'⟩, m7, m8⟩ := id p4
  have nn : nd σM0 t = n := by unfold nd; rw [m2']; exact Int.toNat_natCast n
  have e46 : σM0.1 0 46 = σM.1 0 46 := m7 0 46 (by omega) (by omega) (by omega)
  have e22 : σM0.1 22 = σM.1 22 := by funext i; exact m7 22 i (by omega) (by omega) (by omega)
  obtain ⟨σC1, σM1, w1, w2, w3, w4, w5⟩ := set_sim hS hR (by omega) hd (v := 0) (by omega) (c := c1) (m := m1) (by rw [e46]; exact hc1) (by rw [nn]; unfold Snd; rw [e22]; exact hs1)
  have nn1 : nd σM1 t = n := by unfold nd; rw [w4 26 t (by omega) (by omega), m2']; exact Int.toNat_natCast n
  have e461 : σM1.1 0 46 = σM.1 0 46 := by rw [w4 0 46 (by omega) (by omega)]; exact e46
  have e221 : σM1.1 22 = σM.1 22 := by rw [← e22]; funext i; exact w4 22 i (by omega) (by omega)
  obtain ⟨σC2, σM2, v1, v2, v3, v4, v5⟩ := set_sim hS w3 (by omega) hd (v := 1) (by omega) (c := c2) (m := m2) (by rw [e461]; exact hc2) (by rw [nn1]; unfold Snd; rw [e221]; exact hs2)
  refine ⟨σC2, σM0, σM1, σM2, ?_, p3, w2, v2, RR_H v3 (by omega) (by omega), fun z => w5 (by omega) (by rw [m4' 0 (by omega), z]), fun z => v5 (by omega) ?_⟩
  · unfold f_X4_enter
    rw [p1, bind_s, ck_pos (by omega), ck_pos (by omega), bind_s]
    have w1' : f_X4_setVar 0 c1 (stI r 49 5 (if r.1 49 5 < r.1 44 0 then r.1 44 0 else r.1 49 5)) = some σC1 := w1
    have v1' : f_X4_setVar 1 c2 σC1 = some σC2 := v1
    rw [w1', bind_s, v1']
    rfl
  · rw [w4 28 (6 * t + 1) (by omega) (by omega), m4' 1 (by omega), z]
