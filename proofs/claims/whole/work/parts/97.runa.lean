/-! what is raised -/
theorem e_guard {σC τ : Mm} (hP : PR σC τ) {m c : Nat} (hm : (m : Int) < σC.1 1 1) (hc : (c : Int) < σC.1 1 0) (htm : f_X1_topMethod σC = some (m : Int)) (at' : Int) : ∀ (p f : Nat), (p : Int) ≤ σC.1 6 m → p < f → f_X4_guardFor_14 f c at' ((p : Int) - 1) σC = some (gOf σC m at' c p) := by
  have h10 := hP.1.1
  have h12 := hP.1.2.2.1
  intro p
  induction p with
  | zero =>
    intro f hp hf
    obtain ⟨f, rfl⟩ : ∃ g, f = g + 1 := ⟨f - 1, by omega⟩
    rw [f_X4_guardFor_14, if_pos (by omega)]
    rfl
  | succ p ih =>
    intro f hp hf
    obtain ⟨f, rfl⟩ : ∃ g, f = g + 1 := ⟨f - 1, by omega⟩
    obtain ⟨l1, l2, l3, l4, l5, l6, -⟩ := PR_ln hP hm (p := p) (by omega)
    have e1 : (((p + 1 : Nat) : Int) - 1) = (p : Int) := by omega
    have e2 : (p : Int) + -1 = (p : Int) - 1 := by omega
    have ihf := ih f (by omega) (by omega)
    rw [f_X4_guardFor_14, e1, if_neg (by omega), htm, bind_s, e_stepAt hP hm (by omega), bind_s, if_neg (by omega), e_covers hP l1, bind_s, e2, ihf]
    show _ = some (if cov σC (ln σC m p) at' ∧ blw σC c (Int.toNat (σC.1 11 (ln σC m p))) = true then ((ln σC m p : Nat) : Int) else gOf σC m at' c p)
    have okc := (PR_okS hP l1).2.2.2.2.2.2.2.1
    by_cases hcv : cov σC (ln σC m p) at'
    · have rc := okc (Or.inr hcv.1)
      obtain ⟨q, hq⟩ : ∃ q : Nat, σC.1 11 (ln σC m p) = q := ⟨Int.toNat (σC.1 11 (ln σC m p)), by omega⟩
      rw [b01_t hcv, if_neg (by omega), ck_pos (by omega), Int.toNat_natCast, hq, e_liesBelow (by omega) (by omega), bind_s, Int.toNat_natCast]
      by_cases hb : blw σC c q = true
      · rw [b01_t hb, if_neg (by omega), if_pos ⟨hcv, hb⟩]
      · rw [b01_f hb, if_pos rfl, ck_pos (by omega), if_neg (fun z => hb z.2)]
    · rw [b01_f hcv, if_pos rfl, ck_pos (by omega), if_neg (fun z => hcv z.1)]
def gEnd (A σM : Mm) (i : Int) (g : Nat) : Option Mm := (f_X7_becomes (σM.1 9 g) i σM).bind (fun r => ck (inR ((A.1 14 g + r.1 10 g) + 1)) (ck ((0 : Int) ≤ r.1 0 52 - 1 ∧ r.1 0 52 - 1 < ((25 : Nat) : Int)) (some (stI r 27 (Int.toNat (r.1 0 52 - 1)) ((A.1 14 g + r.1 10 g) + 1)))))
theorem g_guard {A σM : Mm} (hP : PR A σM) {m c i : Nat} (hm : (m : Int) < A.1 1 1) (hc : (c : Int) < A.1 1 0) (hi : i < 300) (h29 : σM.1 29 i = c) (at' x2 : Int) (k0 : Int → Int → Mm → Option Mm) : ∀ (p f : Nat), (p : Int) ≤ A.1 6 m → p < f → f_X7_raises_45 k0 f i x2 m at' ((p : Int) - 1) σM = if gOf A m at' c p < 0 then ck (inR (σM.1 0 52 - 1)) (k0 i x2 (stI σM 0 52 (σM.1 0 52 - 1))) else gEnd A σM i (Int.toNat (gOf A m at' c p)) := by
  have h10 := hP.1.1
  have h11 := hP.1.2.1
  have h12 := hP.1.2.2.1
  intro p
  induction p with
  | zero =>
    intro f hp hf
    obtain ⟨f, rfl⟩ : ∃ g, f = g + 1 := ⟨f - 1, by omega⟩
    rw [f_X7_raises_45, if_pos (by omega), if_pos (show gOf A m at' c 0 < 0 from (by decide : (-1 : Int) < 0))]
  | succ p ih =>
    intro f hp hf
    obtain ⟨f, rfl⟩ : ∃ g, f = g + 1 := ⟨f - 1, by omega⟩
    obtain ⟨l1, l2, l3, l4, l5, l6, -⟩ := PR_ln hP hm (p := p) (by omega)
    have e1 : (((p + 1 : Nat) : Int) - 1) = (p : Int) := by omega
    have e2 : (p : Int) + -1 = (p : Int) - 1 := by omega
    have ihf := ih f (by omega) (by omega)
    have e3 : Int.toNat (90 * (m : Int) + p) = m * 90 + p := by omega
    obtain ⟨⟨-, -, p3, p4, p5, p6, p7⟩, -⟩ := hP.2.2.2.2.2.1 (ln A m p) l1
    rw [f_X7_raises_45, e1, if_neg (by omega), ck_pos (by omega), e3, l3, g_covers hP l1, bind_s, e2, ihf]
    have eg : gOf A m at' c (p + 1) = if cov A (ln A m p) at' ∧ blw A c (Int.toNat (A.1 11 (ln A m p))) = true then ((ln A m p : Nat) : Int) else gOf A m at' c p := rfl
    have okc := (PR_okS hP l1).2.2.2.2.2.2.2.1
    by_cases hcv : cov A (ln A m p) at'
    · have rc := okc (Or.inr hcv.1)
      obtain ⟨q, hq⟩ : ∃ q : Nat, A.1 11 (ln A m p) = q := ⟨Int.toNat (A.1 11 (ln A m p)), by omega⟩
      have ob : f_X7_isObjectBelow i q σM = some (b01 (blw A c q = true)) := by
        unfold f_X7_isObjectBelow
        rw [ck_pos (by omega), Int.toNat_natCast, h29, g_isBelow hP.2.1 (by omega) (by omega) (by omega), bind_s, ck_pos b01_z]
      rw [b01_t hcv, if_neg (by omega), ck_pos (by omega), Int.toNat_natCast, p6, hq, ob, bind_s]
      rw [hq, Int.toNat_natCast] at eg
      by_cases hb : blw A c q = true
      · rw [if_pos ⟨hcv, hb⟩] at eg
        rw [eg, b01_t hb, if_neg (show ¬ (1 : Int) = 0 by omega), if_neg (show ¬ ((ln A m p : Nat) : Int) < 0 by omega), Int.toNat_natCast]
        unfold gEnd
        simp only [ck_pos (show (0 : Int) ≤ ((ln A m p : Nat) : Int) ∧ ((ln A m p : Nat) : Int) < ((90 : Nat) : Int) by omega), bind_s, l5]
      · rw [if_neg (fun z => hb z.2)] at eg
        rw [eg, b01_f hb, if_pos rfl, ck_pos (by omega)]
    · rw [if_neg (fun z => hcv z.1)] at eg
      rw [eg, b01_f hcv, if_pos rfl, ck_pos (by omega)]
theorem raise_one {A B σC σM : Mm} {t s i x : Nat} {e d H s0 : Int} (hS : FDn A B) (h : RR A B σC σM (t + 1) e d H) (hH : H ≤ 9000) (hd : d ≤ e) (he : e ≤ 300) (hi : (i : Int) < σM.1 0 46) (hx : σM.1 22 i = x) (hs : (s : Int) < A.1 1 2) (how : A.1 13 s = B.1 13 (nd σM t)) (hpl : σM.1 27 t = A.1 14 s + 1) (hb : lb (B.2 16 (8 * nd σM t + gVar A (Int.toNat (B.1 13 (nd σM t))) (A.1 14 s) (mcl A (xst B x)) (Int.toNat (A.1 14 s)))) x = true) (f g : Nat) : (f_X4_raise_21 (f + 1) s0 i ((t + 1 : Nat) : Int) σC = f_X4_raise_21 f s0 i (t : Int) (stI σC 44 0 (t : Int)) ∧ f_X7_raises_0 (g + 1) i s0 σM = f_X7_raises_0 g i s0 (stI σM 0 52 (t : Int)) ∧ lb (B.2 16 (8 * nd σM t + 7)) x = true) ∨ ∃ σC' σM', f_X4_raise_21 (f + 1) s0 i ((t + 1 : Nat) : Int) σC = some σC' ∧ f_X7_raises_0 (g + 1) i s0 σM = some σM' ∧ RR A B σC' σM' (t + 1) e e (H + 3) := by
  obtain ⟨k1, k2, k3⟩ := h.2.1
  obtain ⟨n1, n2, n3⟩ := nd_eq h (f := t) (by omega)
  obtain ⟨b1, b2, b3, b4, b5⟩ := h.2.2.2.1 t (by omega)
  have hPC : PR σC σM := (FD_run hS h.1.1 h.1.2).1.1.1
  have hPA : PR A σM := PR_gen hS.1.1.1 (fun _ _ _ => rfl) (MX_MG h.1.2)
  have hpr : ∀ k, 1 ≤ k → k ≤ 14 → σC.1 k = A.1 k := fun k _ _ => CX_row h.1.1 (by omega)
  obtain ⟨x', k, x1, x2, x3, x4, j1, j2, j3, j4, j5, j6, j7, j8, j9, j10, j11, j12⟩ := ob_all hS h (by omega) (i := i) hi
  obtain rfl : x' = x := by omega
  obtain ⟨-, r13, -⟩ := hS.1.1.2.2.1 (nd σM t) n3
  obtain ⟨m, hm⟩ : ∃ m : Nat, B.1 13 (nd σM t) = m := ⟨Int.toNat (B.1 13 (nd σM t)), by omega⟩
  have h11 := hS.1.1.1.1.2.1
  have h12 := hS.1.1.1.1.2.2.1
  have lo := (FD_low hS).2.2.1
  have pl := PR_place hS.1.1.1 hs
  obtain ⟨-, -, p2, -⟩ := hS.1.1.1.2.2.2.2.2.1 s hs
  rw [how, hm, Int.toNat_natCast] at p2
  obtain ⟨p, hp⟩ : ∃ p : Nat, A.1 14 s = p := ⟨Int.toNat (A.1 14 s), by omega⟩
  rw [hm, Int.toNat_natCast, hp, Int.toNat_natCast, j5] at hb
  have tm : f_X1_topMethod σC = some (m : Int) := by
    unfold f_X1_topMethod
    rw [ck_pos (by omega), show Int.toNat (σC.1 44 0 - 1) = t by omega, b3, hm]
  have gC : f_X4_guardFor ((mcl A k : Nat) : Int) σC = some (gOf A m (p : Int) (mcl A k) p) := by
    unfold f_X4_guardFor f_X1_topNext
    rw [ck_pos (by omega), bind_s, show Int.toNat (σC.1 44 0 - 1) = t by omega, b4, hpl, hp, show (p : Int) + 1 - 1 = p by omega, ck_pos (by omega), ck_pos (by omega), e_guard hPC (by rw [hpr 1 (by omega) (by omega)]; omega) (by rw [hpr 1 (by omega) (by omega)]; omega) tm (p : Int) p 2000 (by rw [hpr 6 (by omega) (by omega)]; omega) (by omega), gOf_frame hpr]
  have gM : f_X7_raises_0 (g + 1) i s0 σM = if gOf A m (p : Int) (mcl A k) p < 0 then ck (inR (σM.1 0 52 - 1)) (f_X7_raises_0 g i s0 (stI σM 0 52 (σM.1 0 52 - 1))) else gEnd A σM i (Int.toNat (gOf A m (p : Int) (mcl A k) p)) := by
    rw [f_X7_raises_0, if_neg (by omega), ck_pos (by omega), show Int.toNat (σM.1 0 52 - 1) = t by omega, n1, ck_pos (by omega), ck_pos (by omega), hpl, hp, show (p : Int) + 1 - 1 = p by omega, ck_pos (by omega), ck_pos (by omega), Int.toNat_natCast, h.1.2.1 13 _ (by omega), hm]
    exact g_guard hPA (by omega) j8 j9 j7 (p : Int) s0 _ p 2000 (by omega) (by omega)
  obtain ⟨y1, y2, y3⟩ := gOf_lt hS.1.1.1 (m := m) (by omega) (at' := (p : Int)) (c := mcl A k) p (by omega)
  rw [f_X4_raise_21, if_neg (by omega), j12, bind_s, gC, bind_s, gM]
  by_cases hg : gOf A m (p : Int) (mcl A k) p < 0
  · left
    rw [if_pos hg, if_pos hg, ck_pos (by omega), ck_pos (by omega), ck_pos (by omega), show σC.1 44 0 - 1 = (t : Int) by omega, show σM.1 0 52 - 1 = (t : Int) by omega, show ((t + 1 : Nat) : Int) + -1 = (t : Int) by omega]
    unfold gVar at hb
    rw [if_pos hg] at hb
    exact ⟨rfl, rfl, hb⟩
  · right
    have y3' := y3 (by omega)
    unfold gVar at hb
    rw [if_neg hg] at hb
    rw [if_neg hg, if_neg hg]
    obtain ⟨q, hq⟩ : ∃ q : Nat, gOf A m (p : Int) (mcl A k) p = q := ⟨Int.toNat (gOf A m (p : Int) (mcl A k) p), by omega⟩
    rw [hq] at y2 y3' hb ⊢
    rw [Int.toNat_natCast] at y3' hb ⊢
    obtain ⟨-, ok2, -, -, -, -, -, -, -, -, ok11⟩ := PR_okS hS.1.1.1 y2
    have rb := ok11 (Or.inr y3'.1)
    have ra := ok2 (by have := y3'.1; omega)
    clear ok2 ok11
    have pq := PR_place hS.1.1.1 y2
    obtain ⟨⟨c8, c9, c10, c11, c12⟩, ⟨m8, m9, m10, m11, m12⟩, h90⟩ := stat hS h y2
    obtain ⟨σC', σM', w1, w2, w3, -⟩ := set_sim hS h (by omega) (by omega) (v := Int.toNat (A.1 9 q)) (by omega) (c := i) (m := i) ⟨⟨by omega, hi⟩, by rw [if_neg (by omega)]⟩ (fun _ => by rw [Int.toNat_natCast, hx, Int.toNat_natCast]; exact hb)
    rw [Int.toNat_of_nonneg ra.1] at w1 w2
    obtain ⟨v1, v2, v3⟩ := w3.2.1
    obtain ⟨⟨d8, d9, d10, d11, d12⟩, ⟨o8, o9, o10, o11, o12⟩, -⟩ := stat hS w3 y2
    have d14 : σC'.1 14 q = A.1 14 q := w3.1.1.1 14 q (by omega) (by omega)
    refine ⟨_, _, ?_, ?_, RR_H (RR_next w3 (p := A.1 14 q + A.1 10 q + 1) (by omega)) (by omega) hd⟩
    · unfold f_X1_goOnAt
      rw [ck_pos (by omega), c9, w1, bind_s, ck_pos (by omega), ck_pos (by omega), d14, d10, ck_pos (by omega), ck_pos (by omega), bind_s, show Int.toNat (σC'.1 44 0 - 1) = t by omega]
    · unfold gEnd
      rw [m9, w2, bind_s, o10, ck_pos (by omega), ck_pos (by omega), show Int.toNat (σM'.1 0 52 - 1) = t by omega]
theorem raise_loop {A B : Mm} (hS : FDn A B) {i x : Nat} {e d H s0 : Int} (hH : H ≤ 9000) (hd : d ≤ e) (he : e ≤ 300) : ∀ (t f g : Nat) (σC σM : Mm), RR A B σC σM (t + 1) e d H → (i : Int) < σM.1 0 46 → σM.1 22 i = x → (∃ s : Nat, (s : Int) < A.1 1 2 ∧ A.1 13 s = B.1 13 (nd σM t) ∧ σM.1 27 t = A.1 14 s + 1 ∧ lb (B.2 16 (8 * nd σM t + gVar A (Int.toNat (B.1 13 (nd σM t))) (A.1 14 s) (mcl A (xst B x)) (Int.toNat (A.1 14 s)))) x = true) → t + 1 < f → t + 1 < g → ∃ σC' σM', f_X4_raise_21 f s0 i ((t + 1 : Nat) : Int) σC = some σC' ∧ f_X7_raises_0 g i s0 σM = some σM' ∧ ((∃ t', t' ≤ t ∧ RR A B σC' σM' (t' + 1) e e (H + 3)) ∨ RE A B σC' σM') := by
  intro t
  induction t with
  | zero =>
    intro f g σC σM h hi hx ⟨s, s1, s2, s3, s4⟩ hf hg
    obtain ⟨f, rfl⟩ : ∃ q, f = q + 1 + 1 := ⟨f - 2, by omega⟩
    obtain ⟨g, rfl⟩ : ∃ q, g = q + 1 + 1 := ⟨g - 2, by omega⟩
    rcases raise_one (s0 := s0) hS h hH hd he hi hx s1 s2 s3 s4 (f + 1) (g + 1) with ⟨r1, r2, r3⟩ | ⟨σC', σM', r1, r2, r3⟩
    · rw [r1, r2, f_X4_raise_21, f_X7_raises_0, if_pos (by omega), if_pos (show (stI σM 0 52 ((0 : Nat) : Int)).1 0 52 ≤ 0 from Int.le_refl 0), ck_pos (by omega)]
      unfold f_X4_fail f_X7_fails
      rw [ck_pos (by omega), ck_pos (by omega)]
      have hR := RR_pop h
      exact ⟨_, _, rfl, rfl, Or.inr (RE_raised hR (by omega) (c := i) (m := i) ⟨⟨by omega, hi⟩, by rw [if_neg (by omega)]⟩ s0)⟩
    · exact ⟨σC', σM', r1, r2, Or.inl ⟨0, by omega, r3⟩⟩
  | succ t ih =>
    intro f g σC σM h hi hx ⟨s, s1, s2, s3, s4⟩ hf hg
    obtain ⟨f, rfl⟩ : ∃ q, f = q + 1 := ⟨f - 1, by omega⟩
    obtain ⟨g, rfl⟩ : ∃ q, g = q + 1 := ⟨g - 1, by omega⟩
    rcases raise_one (s0 := s0) hS h hH hd he hi hx s1 s2 s3 s4 f g with ⟨r1, r2, r3⟩ | ⟨σC', σM', r1, r2, r3⟩
    · rw [r1, r2]
      obtain ⟨s', q1, q2, q3, q4, q5⟩ := h.2.2.2.2.2.1 t (by omega)
      obtain ⟨σC', σM', w1, w2, w3⟩ := ih f g _ _ (RR_pop h) hi hx ⟨s', q1, q2, q3, q5.2.2 x r3⟩ (by omega) (by omega)
      refine ⟨σC', σM', w1, w2, ?_⟩
      rcases w3 with ⟨t', w3, w4⟩ | w3
      · exact Or.inl ⟨t', by omega, w4⟩
      · exact Or.inr w3
    · exact ⟨σC', σM', r1, r2, Or.inl ⟨t + 1, by omega, r3⟩⟩
theorem rn15 {A B σC σM : Mm} {t s n : Nat} {e d H : Int} (hS : FDn A B) (h : RR A B σC σM (t + 1) e d H) (hH : H ≤ 9000) (hd : d + 1 ≤ e) (he : e ≤ 300) (ha : At A B σM t s n) (hk : A.1 8 s = 15) : Rs A B (f_X4_doStep s σC) (f_X7_does s (A.2 43 5) σM) t e H := by
  obtain ⟨a1, a2, a3, a4, a5⟩ := ha
  obtain ⟨⟨c8, c9, c10, c11, c12⟩, ⟨m8, m9, m10, m11, m12⟩, h90⟩ := stat hS h a2
  obtain ⟨-, ok2, -⟩ := PR_okS hS.1.1.1 a2
  have ra := ok2 (by omega)
  clear ok2
  obtain ⟨k1, k2, k3⟩ := h.2.1
  have vM := g_var h ra
  rw [dC15 h90 (c8.trans hk), dM15 h90 (m8.trans hk), c9, m9, e_varOf h ra, bind_s, vM, bind_s]
  obtain ⟨v1, v2⟩ := h.2.2.2.2.1 t (Int.toNat (A.1 9 s)) (by omega) (by omega)
  generalize σC.1 48 (6 * t + Int.toNat (A.1 9 s)) = c at *
  generalize σM.1 28 (6 * t + Int.toNat (A.1 9 s)) = m at *
  obtain ⟨q1, q2⟩ := thg_m v1
  unfold f_X4_raise f_X7_raises
  by_cases hm : m < 0
  · rw [if_pos (q1.mpr hm), if_neg (show ¬ 0 ≤ m by omega), bind_id]
    exact Rs_fail h (by omega) he (by omega) s
  have hmN := v1.1.2
  obtain ⟨i, rfl⟩ : ∃ i : Nat, m = i := ⟨Int.toNat m, by omega⟩
  obtain rfl : c = (i : Int) := q2 (by omega)
  obtain ⟨x, k, x1, x2, x3, x4, j1, j2, j3, j4, j5, j6, j7, j8, j9, j10, j11, j12⟩ := ob_all hS h (by omega) (i := i) hmN
  have v2' := v2 (by omega)
  rw [Int.toNat_natCast, x1, Int.toNat_natCast, a1] at v2'
  rw [if_neg (show ¬ (i : Int) = -9 by omega), if_pos (show 0 ≤ (i : Int) by omega), bind_s, k1]
  obtain ⟨σC', σM', w1, w2, w3⟩ := raise_loop hS (s0 := (s : Int)) (i := i) (x := x) hH (show d ≤ e by omega) he t 2000 2000 σC σM h hmN x1 ⟨s, a2, by rw [a1]; exact a3, a4, by rw [a1]; exact a5.2.2.2.2.2.2.2.2.2.2.2.2 hk x v2'⟩ (by omega) (by omega)
  refine ⟨σC', σM', w1, w2, ?_⟩
  rcases w3 with ⟨t', w3, w4⟩ | w3
  · exact Or.inl ⟨t', by omega, w4⟩
  · exact Or.inr w3
