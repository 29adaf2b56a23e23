/-! the same findings, in two contents of the reference -/
def Eqv (τ τ' : Mm) : Prop := (τ'.1 0 24 = τ.1 0 24 ∧ τ'.1 0 29 = τ.1 0 29 ∧ τ'.1 0 18 = τ.1 0 18 ∧ τ'.1 0 19 = τ.1 0 19) ∧ (∀ n : Nat, (n : Int) < τ.1 0 24 → τ'.1 13 n = τ.1 13 n ∧ τ'.1 14 n = τ.1 14 n ∧ τ'.1 15 n = τ.1 15 n) ∧ (∀ x : Nat, (x : Int) < τ.1 0 29 → τ'.1 17 x = τ.1 17 x ∧ τ'.1 18 x = τ.1 18 x) ∧ (∀ j : Nat, (j : Int) < 8 * τ.1 0 24 → τ'.2 16 j = τ.2 16 j) ∧ (∀ j : Nat, (j : Int) < 5 * τ.1 0 29 → τ'.2 19 j = τ.2 19 j) ∧ ∀ j : Nat, j < 4 → τ'.2 20 j = τ.2 20 j
theorem Eqv.rf {τ : Mm} : Eqv τ τ := ⟨⟨rfl, rfl, rfl, rfl⟩, fun _ _ => ⟨rfl, rfl, rfl⟩, fun _ _ => ⟨rfl, rfl⟩, fun _ _ => rfl, fun _ _ => rfl, fun _ _ => rfl⟩
theorem Eqv_of {τ τ' : Mm} (hM : Mono τ τ') (hS : Same τ τ') : Eqv τ τ' :=
  ⟨⟨hS.1, hS.2.1, hM.1.2 18 (by decide) (by decide) (by decide) (by decide) (by decide) (by decide), hM.1.2 19 (by decide) (by decide) (by decide) (by decide) (by decide) (by decide)⟩, hM.2.2.1, hM.2.2.2.1, hS.2.2.1, hS.2.2.2.1, hS.2.2.2.2⟩
theorem ctx_eqv {o : Nat} {σC τ τ' : Mm} (h : RF o σC τ) (hE : Eqv τ τ') {k : Nat} (s : Int) (hk : (k : Int) < τ.1 0 24) : (call1 τ' k s = call1 τ k s ∧ call2 τ' k = call2 τ k) ∧ ∀ y : Nat, (y : Int) < τ.1 0 29 → ask1 τ' s y = ask1 τ s y ∧ ask2 τ' k y = ask2 τ k y := by
  obtain ⟨⟨-, -, e18, e19⟩, e1, e2, -⟩ := hE
  obtain ⟨-, a1, a2⟩ := e1 k hk
  refine ⟨⟨?_, ?_⟩, fun y hy => ⟨?_, ?_⟩⟩
  · unfold call1; rw [e18, e19, a1]
  · unfold call2; rw [e18, e19, a1, a2]
  · obtain ⟨b1, b2⟩ := e2 y hy
    unfold ask1; rw [e18, e19, b1]
  · obtain ⟨b1, b2⟩ := e2 y hy
    obtain ⟨-, -, -, x4, -⟩ := h.2.2.2.1 y hy
    obtain ⟨-, c1, -⟩ := e1 (Int.toNat (τ.1 18 y)) (by omega)
    unfold ask2; rw [e18, e19, a1, b2, c1]
theorem RsC_eqv {o : Nat} {σC σ' τ τ' : Mm} (h : RF o σC τ) (hpr : ∀ k, 1 ≤ k → k ≤ 14 → σ'.1 k = σC.1 k) (hE : Eqv τ τ') {n s : Nat} (hn : (n : Int) < τ.1 0 24) (hs : (s : Int) < σC.1 1 2) (how : σC.1 13 s = τ.1 13 n) {bits : Int64} (hb : ∀ i, lb bits i = true → (i : Int) < τ.1 0 29) (hr : RsC σC τ n s bits) : RsC σ' τ' n s bits := fun i hi => by
  have := hr i hi
  obtain ⟨-, e1, e2, e3, -⟩ := hE
  have mce : ∀ i, mcl σ' i = mcl σC i := fun i => by unfold mcl; rw [hpr 8 (by omega) (by omega), hpr 10 (by omega) (by omega)]
  have xse : xst τ' i = xst τ i := by unfold xst; rw [(e2 i (hb i hi)).1]
  obtain ⟨-, w3, w4, -⟩ := h.1.2.2.2.2.2.1 s hs
  obtain ⟨-, n3, -⟩ := h.2.2.1 n hn
  have hlt := gVar_lt h.1 (m := Int.toNat (τ.1 13 n)) (by omega) (at' := σC.1 14 s) (c := mcl σC (xst τ i)) (p := Int.toNat (σC.1 14 s)) (by rw [how] at w4; omega)
  rw [gVar_frame hpr, mce, xse, (e1 n hn).1, hpr 14 (by omega) (by omega), e3 _ (by omega)]
  exact this
theorem JnC_eqv {o : Nat} {σC σ' τ τ' : Mm} (h : RF o σC τ) (hpr : ∀ k, 1 ≤ k → k ≤ 14 → σ'.1 k = σC.1 k) (hE : Eqv τ τ') {n s t : Nat} (hn : (n : Int) < τ.1 0 24) (ht : (t : Int) < τ.1 0 24) (hs : (s : Int) < σC.1 1 2) (how : σC.1 13 s = τ.1 13 n) (hk : σC.1 8 s = 9 ∨ σC.1 8 s = 10) (hj : JnC σC τ n s t) : JnC σ' τ' n s t := by
  obtain ⟨j1, j2, j3⟩ := hj
  obtain ⟨o1, o2, -, -, -, -, -, -, o9, -⟩ := PR_okS h.1 hs
  have ha := o2 (by omega)
  have hd := o9 hk
  clear o1 o2 o9
  have S : ∀ j : Nat, (j : Int) < 8 * τ.1 0 24 → τ'.2 16 j = τ.2 16 j := hE.2.2.2.1
  refine ⟨?_, ?_, ?_⟩
  · rw [hpr 12 (by omega) (by omega), S _ (by omega), S _ (by omega)]; exact j1
  · rw [hpr 9 (by omega) (by omega), S _ (by omega), S _ (by omega)]; exact j2
  · rw [S _ (by omega)]
    exact RsC_eqv h hpr hE hn hs how (h.2.2.2.2.1 t 7 ht (by omega)).2 j3
theorem Cl_eqv {o : Nat} {σC σ' τ τ' : Mm} (h : RF o σC τ) (hpr : ∀ k, 1 ≤ k → k ≤ 14 → σ'.1 k = σC.1 k) (hE : Eqv τ τ') {n s : Nat} (hn : (n : Int) < τ.1 0 24) (hs : (s : Int) < σC.1 1 2) (how : σC.1 13 s = τ.1 13 n) (hc : Cl σC τ n s) : Cl σ' τ' n s := by
  obtain ⟨c0, c2, c4, c5, c6, c7, c8, c9, c10, c11, c13, c14, c15⟩ := hc
  have s8 := h.2.1.2.2.1
  obtain ⟨⟨e24, e29, -, -⟩, e1, e2, S, I, G⟩ := id hE
  obtain ⟨o1, o2, o3, o4, o5, o6, o7, o8, o9, o10, o11⟩ := PR_okS h.1 hs
  have q8 := hpr 8 (by omega) (by omega); have q9 := hpr 9 (by omega) (by omega); have q10 := hpr 10 (by omega) (by omega); have q11 := hpr 11 (by omega) (by omega); have q2 := hpr 2 (by omega) (by omega)
  have mce : ∀ i, mcl σ' i = mcl σC i := fun i => by unfold mcl; rw [q8, q10]
  have bwe : ∀ a b, blw σ' a b = blw σC a b := fun a b => by unfold blw; rw [q2]
  have xse : ∀ i : Nat, (i : Int) < τ.1 0 29 → xst τ' i = xst τ i := fun i hi => by unfold xst; rw [(e2 i hi).1]
  have Sv : ∀ v : Int, 0 ≤ v ∧ v < 8 → Hs τ' n v = Hs τ n v := fun v hv => S _ (by omega)
  have Bv : ∀ v : Int, 0 ≤ v ∧ v < 8 → ∀ i, lb (Hs τ n v) i = true → (i : Int) < τ.1 0 29 := fun v hv i hi => (h.2.2.2.2.1 n (Int.toNat v) hn (by omega)).2 i hi
  have ha : σC.1 8 s ≠ 12 → 0 ≤ σC.1 9 s ∧ σC.1 9 s < 8 := fun z => by have := o2 z; omega
  have hb : (σC.1 8 s = 2 ∨ σC.1 8 s = 4 ∨ σC.1 8 s = 5 ∨ σC.1 8 s = 6 ∨ σC.1 8 s = 7 ∨ σC.1 8 s = 8 ∨ σC.1 8 s = 9) → 0 ≤ σC.1 10 s ∧ σC.1 10 s < 8 := fun z => by have := o5 z; omega
  have hc4 : (σC.1 8 s = 4 ∨ σC.1 8 s = 5 ∨ σC.1 8 s = 13 ∨ σC.1 8 s = 14) → 0 ≤ σC.1 11 s ∧ σC.1 11 s < 4 := o6
  clear o1 o2 o3 o4 o5 o6 o7 o8 o9 o10 o11
  refine ⟨fun e => ?_, fun e => ?_, fun e => ?_, fun e => ?_, fun e => ?_, fun e => ?_, fun e => ?_, fun e => ?_, fun e => ?_, fun e => ?_, fun e => ?_, fun e => ?_, fun e => ?_⟩
  all_goals rw [q8] at e
  · obtain ⟨x, x1, x2, x3, x4⟩ := c0 e
    refine ⟨x, by omega, by rw [(e2 x x1).1]; exact x2, by rw [(e2 x x1).2]; exact x3, ?_⟩
    rw [q9, Sv _ (ha (by omega))]; exact x4
  · unfold Cl2
    rw [q9, q10, Sv _ (ha (by omega)), Sv _ (hb (by omega))]; exact c2 e
  · unfold Cl4
    rw [q9, q10, q11, Sv _ (ha (by omega)), Sv _ (hb (by omega)), e29, q8]
    have hcc := hc4 (by omega)
    intro y y1 y2 y3
    rw [I _ (by omega)]
    rw [xse y y1] at y3
    exact c4 e y y1 y2 y3
  · unfold Cl5
    rw [q9, q10, q11, Sv _ (ha (by omega)), Sv _ (hb (by omega)), e29, q8]
    have hcc := hc4 (by omega)
    intro y y1 y2 y3
    rw [I _ (by omega)]
    rw [xse y y1] at y3
    exact c5 e y y1 y2 y3
  · unfold Cl6
    rw [q9, q10, Sv _ (ha (by omega)), Sv _ (hb (by omega)), e29, q8]
    intro y y1 y2 y3
    rw [I _ (by omega)]
    rw [xse y y1] at y3
    exact c6 e y y1 y2 y3
  · unfold Cl7
    rw [q9, q10, Sv _ (ha (by omega)), Sv _ (hb (by omega)), e29, q8]
    intro y y1 y2 y3 i i1 i2
    rw [I _ (by omega)]
    rw [xse y y1] at y3 i2
    rw [bwe, mce, xse i (Bv _ (hb (by omega)) i i1)] at i2
    exact c7 e y y1 y2 y3 i i1 i2
  · unfold Cl8
    rw [q9, q10, q11, Sv _ (ha (by omega)), Sv _ (hb (by omega))]
    intro i i1 i2
    rw [bwe, mce, xse i (Bv _ (hb (by omega)) i i1)] at i2
    exact c8 e i i1 i2
  · unfold Cl9
    rw [q10, Sv _ (hb (by omega)), e29]
    intro y y1 y2 y3
    have em := mnt_frame (s := s) hpr (e2 y y1).1
    rw [em] at y3
    obtain ⟨t, v1, ⟨v2, v3, v4⟩, v5, v6⟩ := c9 e y y1 y2 y3
    obtain ⟨-, cw⟩ := ctx_eqv h hE (s : Int) hn
    obtain ⟨cw1, cw2⟩ := cw y y1
    obtain ⟨b0, b1, b2⟩ := e1 t v1
    refine ⟨t, by omega, ⟨?_, ?_, ?_⟩, ?_, JnC_eqv h hpr hE hn v1 hs how (Or.inl e) v6⟩
    · rw [b0, em, v2]
    · rw [b1, cw1, v3]
    · rw [b2, cw2, v4]
    · rw [S _ (by omega)]; exact v5
  · obtain ⟨t, v1, ⟨v2, v3, v4⟩, v6⟩ := c10 e
    obtain ⟨⟨cw1, cw2⟩, -⟩ := ctx_eqv h hE (s : Int) hn
    obtain ⟨b0, b1, b2⟩ := e1 t v1
    refine ⟨t, by omega, ⟨?_, ?_, ?_⟩, JnC_eqv h hpr hE hn v1 hs how (Or.inr e) v6⟩
    · rw [b0, q11, v2]
    · rw [b1, cw1, v3]
    · rw [b2, cw2, v4]
  · unfold Cl11
    rw [q9, Sv _ (ha (by omega)), Sv 6 (by omega)]; exact c11 e
  · unfold Cl13
    have hcc := hc4 (by omega)
    rw [q9, q11, Sv _ (ha (by omega)), G _ (by omega)]; exact c13 e
  · unfold Cl14
    have hcc := hc4 (by omega)
    rw [q9, q11, Sv _ (ha (by omega)), G _ (by omega)]; exact c14 e
  · rw [q9, Sv _ (ha (by omega))]
    exact RsC_eqv h hpr hE hn hs how (Bv _ (ha (by omega))) (c15 e)
/-! a round -/
/-- the STEPS before place p of NODE n are closed, if nothing was new -/
def Pg (σC τ : Mm) (n p : Nat) : Prop := τ.1 0 22 = 0 → ∀ n' p' : Nat, (n' < n ∨ (n' = n ∧ p' < p)) → (n' : Int) < τ.1 0 24 → (p' : Int) < σC.1 6 (Int.toNat (τ.1 13 n')) → Cl σC τ n' (ln σC (Int.toNat (τ.1 13 n')) p')
def Rd (o : Nat) (σa τa σC τ : Mm) : Prop := RF o σC τ ∧ CF o σa σC ∧ Up τa τ ∧ σC.1 (o + 9) 4 = 0 ∧ τ.1 0 23 = 0 ∧ Org σC τ
theorem Pg_step {o : Nat} (ho : o = 15 ∨ o = 29) {σC τ σ' τ' : Mm} {n p : Nat} (h : RF o σC τ) (hO : Ok o σC τ σ' τ') (hn : (n : Int) < τ.1 0 24) (hp : (p : Int) < σC.1 6 (Int.toNat (τ.1 13 n))) (hc : τ'.1 0 22 = 0 → Cl σC τ n (ln σC (Int.toNat (τ.1 13 n)) p)) (hP : Pg σC τ n p) : Pg σ' τ' n (p + 1) := by
  intro z n' p' hlt hn' hp'
  obtain ⟨z1, z2⟩ := hO.2.2.1.same z
  have hE := Eqv_of hO.2.2.1.1 z2
  have hpr := CF_prog ho hO.2.1
  have e24 := z2.1
  have e13 := (hE.2.1 n' (by omega)).1
  have el : ∀ m q, ln σ' m q = ln σC m q := fun m q => by unfold ln; rw [hpr 7 (by omega) (by omega)]
  rw [e13, hpr 6 (by omega) (by omega)] at hp'
  rw [e13, el]
  obtain ⟨-, n3, -⟩ := h.2.2.1 n' (by omega)
  obtain ⟨l1, -, -, l4, -⟩ := PR_ln h.1 (m := Int.toNat (τ.1 13 n')) (p := p') (by omega) hp'
  refine Cl_eqv h hpr hE (by omega) l1 (by rw [l4]; omega) ?_
  by_cases he : n' = n ∧ p' = p
  · obtain ⟨rfl, rfl⟩ := he
    exact hc z
  · exact hP z1 n' p' (by omega) (by omega) hp'
theorem Ov_pre {o : Nat} {a b c d e f : Mm} (h1 : CF o a c) (h2 : Up b d) (h3 : Ov o c d e f) : Ov o a b e f := by
  obtain ⟨q1, ⟨q2, q3, q4⟩, q5, q6, τh, q7, q8⟩ := h3
  have e19 : d.1 0 19 = b.1 0 19 := h2.1.1.2 19 (by decide) (by decide) (by decide) (by decide) (by decide) (by decide)
  exact ⟨by rw [← e19]; exact q1, ⟨q2, q3, h2.1.tr q4⟩, q5, h1.tr q6, τh, q7, h2.1.tr q8⟩
/-- one NODE's STEPS, both sides -/
theorem node_round {o : Nat} (ho : o = 15 ∨ o = 29) {σa τa : Mm} (kC : Int → Mm → Option Mm) (kM : Int → Mm → Option Mm) {n m : Nat} {L : Int} : ∀ (k f p : Nat) (σC τ : Mm), Rd o σa τa σC τ → (n : Int) < τ.1 0 24 → τ.1 13 n = m → σC.1 6 m = L → Pg σC τ n p → (p : Int) + k = L → k < f → ∃ σ1 τ1, f_X0_attempt_118 o kC f n m p σC = kC ((n + 1 : Nat) : Int) σ1 ∧ f_X7_finds_112 kM f n p τ = kM ((n + 1 : Nat) : Int) τ1 ∧ ((Rd o σa τa σ1 τ1 ∧ τ.1 0 24 ≤ τ1.1 0 24 ∧ Pg σ1 τ1 (n + 1) 0) ∨ Ov o σa τa σ1 τ1) := by
  intro k
  induction k with
  | zero =>
    intro f p σC τ hR hn hm hL hPg hp hf
    obtain ⟨f, rfl⟩ : ∃ g, f = g + 1 := ⟨f - 1, by omega⟩
    obtain ⟨h, -⟩ := id hR
    have s7 := h.2.1.2.1
    have h11 := h.1.1.2.1
    obtain ⟨-, n3, -⟩ := h.2.2.1 n hn
    obtain ⟨q1, -, q3⟩ := h.1.2.2.2.2.1 m (by omega)
    obtain ⟨q4, -⟩ := q3 (by omega)
    refine ⟨σC, τ, ?_, ?_, Or.inl ⟨hR, Int.le_refl _, fun z n' p' hlt hn' hp' => ?_⟩⟩
    · rw [f_X0_attempt_118, ck_pos (by omega), Int.toNat_natCast, if_pos (by omega), ck_pos (by omega)]; rfl
    · rw [f_X7_finds_112, ck_pos (by omega), Int.toNat_natCast, hm, ck_pos (by omega), Int.toNat_natCast, if_pos (by omega), ck_pos (by omega)]; rfl
    · by_cases e : n' = n
      · subst e
        rw [hm, Int.toNat_natCast] at hp'
        exact hPg z n' p' (by omega) hn' (by rw [hm, Int.toNat_natCast]; exact hp')
      · exact hPg z n' p' (by omega) hn' hp'
  | succ k ih =>
    intro f p σC τ hR hn hm hL hPg hp hf
    obtain ⟨f, rfl⟩ : ∃ g, f = g + 1 := ⟨f - 1, by omega⟩
    obtain ⟨g, rfl⟩ : ∃ g, f = g + 1 := ⟨f - 1, by omega⟩
    obtain ⟨h, r2, r3, r4, r5, r6⟩ := id hR
    have s7 := h.2.1.2.1
    have h11 := h.1.1.2.1
    obtain ⟨-, n3, -⟩ := h.2.2.1 n hn
    obtain ⟨l1, l2, l3, l4, l5, l6, l7⟩ := PR_ln h.1 (m := m) (p := p) (by omega) (by omega)
    have cc : (p : Int) + 1 = ((p + 1 : Nat) : Int) := by omega
    have cn : (n : Int) + 1 = ((n + 1 : Nat) : Int) := by omega
    obtain ⟨σ1, τ1, c1, m1, hcase⟩ := stp_all ho h r5 hn l1 (by rw [l4, hm])
    have eC : f_X0_attempt_118 o kC (g + 1 + 1) n m p σC = f_X0_attempt_118 o kC (g + 1) n m ((p + 1 : Nat) : Int) σ1 := by
      rw [f_X0_attempt_118, ck_pos (by omega), Int.toNat_natCast, if_neg (by omega), if_pos r4, e_stepAt h.1 (by omega) (by omega), bind_s, c1, bind_s, ck_pos (by omega), cc]
    have eM : f_X7_finds_112 kM (g + 1 + 1) n p τ = f_X7_finds_112 kM (g + 1) n ((p + 1 : Nat) : Int) τ1 := by
      rw [f_X7_finds_112, ck_pos (by omega), Int.toNat_natCast, hm, ck_pos (by omega), Int.toNat_natCast, if_neg (by omega), if_pos r5, ck_pos (by omega), ck_pos (by omega), show Int.toNat (90 * (m : Int) + p) = m * 90 + p by omega, l3, m1, bind_s, ck_pos (by omega), cc]
    rw [eC, eM]
    rcases hcase with ⟨z1, z2, z3⟩ | z1
    · have hpr := CF_prog ho z1.2.1
      have M1 := z1.2.2.1.1
      have hPg1 : Pg σ1 τ1 n (p + 1) := Pg_step ho h z1 hn (by rw [hm, Int.toNat_natCast]; omega) (by rw [hm, Int.toNat_natCast]; exact z3) hPg
      obtain ⟨σ2, τ2, w1, w2, w3⟩ := ih (g + 1) (p + 1) σ1 τ1 ⟨z1.1, r2.tr z1.2.1, r3.tr z1.2.2.1, by rw [z1.2.2.2.1, r4], by rw [z1.2.2.2.2, r5], z2 r6⟩ (by have := M1.2.1.1; omega) (by rw [(M1.2.2.1 n hn).1]; exact hm) (by rw [hpr 6 (by omega) (by omega)]; exact hL) hPg1 (by omega) (by omega)
      refine ⟨σ2, τ2, w1, w2, ?_⟩
      rcases w3 with ⟨w3, w4, w5⟩ | w3
      · exact Or.inl ⟨w3, by have := M1.2.1.1; omega, w5⟩
      · exact Or.inr w3
    · have hOv := Ov_pre r2 r3 z1
      obtain ⟨-, ⟨y2, ⟨σb, y3⟩, y4⟩, y5, -⟩ := z1
      have hnb : (n : Int) < τ1.1 0 24 := by have := y4.2.1.1; omega
      obtain ⟨-, b3, -⟩ := y3.2.2.1 n hnb
      have b11 := y3.1.1.2.1
      have b7 := y3.2.1.2.1
      refine ⟨σ1, τ1, ?_, ?_, Or.inr hOv⟩
      · rw [f_X0_attempt_118, ck_pos (by omega), if_neg (show ¬ σ1.1 (o + 9) 4 = 0 by omega), ite_self, ck_pos (by omega), cn]
      · rw [f_X7_finds_112, ck_pos (by omega), Int.toNat_natCast, ck_pos (by omega), if_neg (show ¬ τ1.1 0 23 = 0 by omega), ite_self, ck_pos (by omega), cn]
/-- the class goes through the rest, when there are too many: nothing is done -/
theorem e_drain {o : Nat} {τh : Mm} (kC : Mm → Option Mm) : ∀ (k f n : Nat) (σ : Mm), RF o σ τh → σ.1 (o + 9) 4 = 1 → (n : Int) + k = 81 → k < f → f_X0_attempt_91 o kC f n σ = kC σ := by
  intro k
  induction k with
  | zero =>
    intro f n σ h h4 hn hf
    obtain ⟨f, rfl⟩ : ∃ g, f = g + 1 := ⟨f - 1, by omega⟩
    obtain ⟨⟨t1, -⟩, s7, -⟩ := h.2.1
    rw [f_X0_attempt_91, if_pos (by omega)]
  | succ k ih =>
    intro f n σ h h4 hn hf
    obtain ⟨f, rfl⟩ : ∃ g, f = g + 1 := ⟨f - 1, by omega⟩
    obtain ⟨⟨t1, -⟩, s7, -⟩ := h.2.1
    have h11 := h.1.1.2.1
    rw [f_X0_attempt_91]
    by_cases hx : σ.1 (o + 9) 2 ≤ (n : Int)
    · rw [if_pos hx]
    · obtain ⟨⟨n1, -⟩, n3, -⟩ := h.2.2.1 n (by omega)
      rw [if_neg hx, ck_pos (by omega), Int.toNat_natCast, n1, f_X0_attempt_118, ck_pos (by omega), if_neg (show ¬ σ.1 (o + 9) 4 = 0 by omega), ite_self, ck_pos (by omega), show (n : Int) + 1 = ((n + 1 : Nat) : Int) by omega]
      exact ih f (n + 1) σ h h4 (by omega) (by omega)
/-- all NODES, both sides -/
theorem nodes_round {o : Nat} (ho : o = 15 ∨ o = 29) {σa τa : Mm} (kC : Mm → Option Mm) (kM : Mm → Option Mm) : ∀ (k f n : Nat) (σC τ : Mm), Rd o σa τa σC τ → (n : Int) ≤ τ.1 0 24 → Pg σC τ n 0 → (n : Int) + k = 81 → k < f → ∃ σ1 τ1, f_X0_attempt_91 o kC f n σC = kC σ1 ∧ f_X7_finds_95 kM f n τ = kM τ1 ∧ ((Rd o σa τa σ1 τ1 ∧ Pg σ1 τ1 80 0) ∨ Ov o σa τa σ1 τ1) := by
  intro k
  induction k with
  | zero =>
    intro f n σC τ hR hn hPg hk hf
    have s7 := hR.1.2.1.2.1
    omega
  | succ k ih =>
    intro f n σC τ hR hn hPg hk hf
    obtain ⟨f, rfl⟩ : ∃ g, f = g + 1 := ⟨f - 1, by omega⟩
    obtain ⟨h, r2, r3, r4, r5, r6⟩ := id hR
    obtain ⟨⟨t1, -⟩, s7, -⟩ := h.2.1
    have h11 := h.1.1.2.1
    by_cases hx : (n : Int) = τ.1 0 24
    · rw [f_X0_attempt_91, f_X7_finds_95, if_pos (show σC.1 (o + 9) 2 ≤ (n : Int) by omega), if_pos (show τ.1 0 24 ≤ (n : Int) by omega)]
      exact ⟨σC, τ, rfl, rfl, Or.inl ⟨hR, fun z n' p' hlt hn' hp' => hPg z n' p' (by omega) hn' hp'⟩⟩
    · obtain ⟨⟨n1, -⟩, n3, -⟩ := h.2.2.1 n (by omega)
      obtain ⟨m, hm⟩ : ∃ m : Nat, τ.1 13 n = m := ⟨Int.toNat (τ.1 13 n), by omega⟩
      obtain ⟨q1, -⟩ := h.1.2.2.2.2.1 m (by omega)
      have h12 := h.1.1.2.2.1
      obtain ⟨σ1, τ1, w1, w2, w3⟩ := node_round ho (σa := σa) (τa := τa) (f_X0_attempt_91 o kC f) (f_X7_finds_95 kM f) (n := n) (m := m) (L := σC.1 6 m) (Int.toNat (σC.1 6 m)) 2000 0 σC τ hR (by omega) hm rfl hPg (by omega) (by omega)
      rw [show ((0 : Nat) : Int) = 0 from rfl] at w1 w2
      have eC : f_X0_attempt_91 o kC (f + 1) n σC = f_X0_attempt_91 o kC f ((n + 1 : Nat) : Int) σ1 := by
        rw [f_X0_attempt_91, if_neg (by omega), ck_pos (by omega), Int.toNat_natCast, n1, hm, w1]
      have eM : f_X7_finds_95 kM (f + 1) n τ = f_X7_finds_95 kM f ((n + 1 : Nat) : Int) τ1 := by
        rw [f_X7_finds_95, if_neg (by omega), if_pos r5, w2]
      rw [eC, eM]
      rcases w3 with ⟨w3, w4, w5⟩ | w3
      · exact ih f (n + 1) σ1 τ1 w3 (by omega) w5 (by omega) (by omega)
      · obtain ⟨-, ⟨y2, -⟩, y5, -, τh, y7, -⟩ := id w3
        refine ⟨σ1, τ1, e_drain kC k f (n + 1) σ1 y7 y5 (by omega) (by omega), ?_, Or.inr w3⟩
        obtain ⟨g, rfl⟩ : ∃ g, f = g + 1 := ⟨f - 1, by omega⟩
        rw [f_X7_finds_95, if_neg (show ¬ τ1.1 0 23 = 0 by omega), ite_self]
