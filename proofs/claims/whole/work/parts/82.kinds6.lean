/-! ASK: all receivers -/
theorem e_ask_skip {o : Nat} {σC τ : Mm} (h : RF o σC τ) {n s x g : Nat} (hs : (s : Int) < σC.1 1 2) (hk : σC.1 8 s = 9) {bits : Int64} (hx : (x : Int) < τ.1 0 29) (hr : ¬ lShr bits (x : Int) = 0) (hno : ¬ (lb bits x = true ∧ 0 ≤ mnt σC τ s x)) : f_X0_doAsk_18 o (g + 1) n s bits x σC = f_X0_doAsk_18 o g n s bits ((x + 1 : Nat) : Int) σC := by
  obtain ⟨⟨t1, t2, -⟩, s7, s8, -⟩ := h.2.1
  have cc : (x : Int) + 1 = ((x + 1 : Nat) : Int) := by omega
  rw [f_X0_doAsk_18, if_neg (by omega), if_neg hr]
  by_cases hb : lb bits x = true
  · rw [if_neg (fun z => by rw [(lbit0 bits (by omega)).mp z] at hb; cases hb), e_methodAskedOf h hs hk hx, bind_s]
    unfold f_X0_doAsk_61
    rw [if_pos (Int.not_le.mp (fun z => hno ⟨hb, z⟩)), ck_pos (by omega), cc]
  · rw [if_pos ((lbit0 bits (by omega)).mpr (by simpa using hb))]
    unfold f_X0_doAsk_61
    rw [if_pos (by omega), ck_pos (by omega), cc]
theorem e_ask_exit {o : Nat} {σC τ : Mm} (h : RF o σC τ) {n s x g : Nat} {bits : Int64} (hx : (x : Int) < τ.1 0 29) (hr : lShr bits (x : Int) = 0) : f_X0_doAsk_18 o (g + 1 + 1) n s bits x σC = some σC ∧ f_X0_doAsk_18 o (g + 1) n s bits ((x + 1 : Nat) : Int) σC = some σC := by
  obtain ⟨⟨t1, t2, -⟩, s7, s8, -⟩ := h.2.1
  constructor
  · rw [f_X0_doAsk_18, if_neg (by omega), if_pos hr]
  · rw [f_X0_doAsk_18]
    by_cases hxe : σC.1 (o + 9) 3 ≤ ((x + 1 : Nat) : Int)
    · rw [if_pos hxe]
    · rw [if_neg hxe, if_pos (lrest_next (by omega) hr)]
theorem e_ask_do {o : Nat} {σC τ : Mm} (h : RF o σC τ) {n s x g : Nat} (hs : (s : Int) < σC.1 1 2) (hk : σC.1 8 s = 9) {bits : Int64} (hx : (x : Int) < τ.1 0 29) (hb : lb bits x = true) (hm : 0 ≤ mnt σC τ s x) {cx tC : Int} {σa σ1 : Mm} (c1 : f_X5_contextOfAsked o n s x σC = some cx) (c2 : f_X0_nodeFor o (mnt σC τ s x) cx σC = some (tC, σa)) (c3 : f_X0_link o n s tC (lShl 1 x) σa = some σ1) : f_X0_doAsk_18 o (g + 1) n s bits x σC = f_X0_doAsk_18 o g n s bits ((x + 1 : Nat) : Int) σ1 := by
  obtain ⟨⟨t1, t2, -⟩, s7, s8, -⟩ := h.2.1
  have cc : (x : Int) + 1 = ((x + 1 : Nat) : Int) := by omega
  have hr : ¬ lShr bits (x : Int) = 0 := fun z => by rw [(lrest0 bits (by omega)).mp z x (by omega)] at hb; cases hb
  rw [f_X0_doAsk_18, if_neg (by omega), if_neg hr, if_neg (fun z => by rw [(lbit0 bits (by omega)).mp z] at hb; cases hb), e_methodAskedOf h hs hk hx, bind_s]
  unfold f_X0_doAsk_61
  rw [if_neg (by omega), c1, bind_s, c2, bind_s]
  show (f_X0_link o n s tC (lShl 1 x) σa).bind _ = _
  rw [c3, bind_s, ck_pos (by omega), cc]
/-- the class goes on, when there are too many: it ends well -/
theorem ask_cont {o : Nat} (ho : o = 15 ∨ o = 29) {n s : Nat} {bits : Int64} {N : Nat} : ∀ (k f x : Nat) (σC τ : Mm), RF o σC τ → τ.1 0 23 = 0 → σC.1 (o + 9) 4 = 1 → (n : Int) < τ.1 0 24 → (s : Int) < σC.1 1 2 → σC.1 13 s = τ.1 13 n → σC.1 8 s = 9 → τ.1 0 29 = N → x + k = N → k < f → ∃ σC' τ', f_X0_doAsk_18 o f n s bits x σC = some σC' ∧ RF o σC' τ' ∧ Mono τ τ' ∧ CF o σC σC' ∧ σC'.1 (o + 9) 4 = 1 := by
  intro k
  induction k with
  | zero =>
    intro f x σC τ h h0 h4 hn hs how hk hN hx hf
    obtain ⟨⟨t1, t2, -⟩, s7, s8, -⟩ := h.2.1
    obtain ⟨f, rfl⟩ : ∃ g, f = g + 1 := ⟨f - 1, by omega⟩
    rw [f_X0_doAsk_18, if_pos (by omega)]
    exact ⟨σC, τ, rfl, h, Mono.rf, CF.rf, h4⟩
  | succ k ih =>
    intro f x σC τ h h0 h4 hn hs how hk hN hx hf
    obtain ⟨⟨t1, t2, -⟩, s7, s8, -⟩ := h.2.1
    obtain ⟨f, rfl⟩ : ∃ g, f = g + 1 := ⟨f - 1, by omega⟩
    obtain ⟨g, rfl⟩ : ∃ g, f = g + 1 := ⟨f - 1, by omega⟩
    have hxn : (x : Int) < τ.1 0 29 := by omega
    by_cases hr : lShr bits (x : Int) = 0
    · rw [(e_ask_exit h hxn hr).1]
      exact ⟨σC, τ, rfl, h, Mono.rf, CF.rf, h4⟩
    · by_cases hb : lb bits x = true ∧ 0 ≤ mnt σC τ s x
      · obtain ⟨cx, tC, σa, σ1, τ0, τa, τ1, tM, c1, c2, c3, m1, m2, hcase⟩ := ask_one ho h h0 hn hs how hk hxn hb.2
        rw [e_ask_do h hs hk hxn hb.1 hb.2 c1 c2 c3]
        rcases hcase with ⟨z1, -, z3, z4, -⟩ | ⟨-, -, -, z4, z5, z6, z7⟩
        · have hpr := CF_prog ho z3.2.1
          have M1 := z3.2.2.1.1
          obtain ⟨σC', τ', r1, r2, r3, r4, r5⟩ := ih (g + 1) (x + 1) σ1 τ1 z3.1 (by rw [z3.2.2.2.2, h0]) (by rw [z3.2.2.2.1, h4]) (by have := M1.2.1.1; omega) (by rw [hpr 1 (by omega) (by omega)]; exact hs) (by rw [hpr 13 (by omega) (by omega), (M1.2.2.1 n hn).1]; exact how) (by rw [hpr 8 (by omega) (by omega)]; exact hk) (by omega) (by omega) (by omega)
          exact ⟨σC', τ', r1, r2, M1.tr r3, z3.2.1.tr r4, r5⟩
        · subst z7
          have hpr := CF_prog ho (many_CF (o := o) (σ := σC) (z := 1))
          obtain ⟨σC', τ', r1, r2, r3, r4, r5⟩ := ih (g + 1) (x + 1) (stI σC (o + 9) 4 1) τ (RF_many ho h 1) h0 (by rw [stI_1, if_pos ⟨rfl, rfl⟩]) hn (by rw [hpr 1 (by omega) (by omega)]; exact hs) (by rw [hpr 13 (by omega) (by omega)]; exact how) (by rw [hpr 8 (by omega) (by omega)]; exact hk) hN (by omega) (by omega)
          exact ⟨σC', τ', r1, r2, r3, many_CF.tr r4, r5⟩
      · rw [e_ask_skip h hs hk hxn hr hb]
        exact ih (g + 1) (x + 1) σC τ h h0 h4 hn hs how hk hN (by omega) (by omega)
theorem g_ask_skip {o : Nat} {σC τ : Mm} (h : RF o σC τ) (h0 : τ.1 0 23 = 0) {n s x g : Nat} (hs : (s : Int) < σC.1 1 2) (hk : σC.1 8 s = 9) {bits : Int64} (hx : (x : Int) < τ.1 0 29) (hno : ¬ (lb bits x = true ∧ 0 ≤ mnt σC τ s x)) : f_X7_goes_425 (g + 1) n s (σC.1 11 s) bits x τ = f_X7_goes_425 g n s (σC.1 11 s) bits ((x + 1 : Nat) : Int) τ := by
  have s8 := h.2.1.2.2.1
  have cc : (x : Int) + 1 = ((x + 1 : Nat) : Int) := by omega
  rw [f_X7_goes_425, if_neg (by omega), if_pos h0]
  by_cases hb : lb bits x = true
  · have hg := g_methodAskedOf h hs hk hx
    rw [g_classOf h hx, bind_s] at hg
    rw [if_pos ((lbit1 bits (by omega)).mpr hb), g_classOf h hx, bind_s, hg, bind_s]
    unfold f_X7_goes_469
    rw [if_pos (Int.not_le.mp (fun z => hno ⟨hb, z⟩)), ck_pos (by omega), cc]
  · rw [if_neg (fun z => hb ((lbit1 bits (by omega)).mp z))]
    unfold f_X7_goes_469
    rw [if_pos (by omega), ck_pos (by omega), cc]
theorem ask_aux {o : Nat} (ho : o = 15 ∨ o = 29) {n s : Nat} {bits : Int64} {N : Nat} (h60 : N ≤ 60) {cs : Int} : ∀ (k f x : Nat) (σC τ : Mm), RF o σC τ → τ.1 0 23 = 0 → (n : Int) < τ.1 0 24 → (s : Int) < σC.1 1 2 → σC.1 13 s = τ.1 13 n → σC.1 8 s = 9 → σC.1 11 s = cs → τ.1 0 29 = N → (∀ i, lb bits i = true → lb (τ.2 16 (8 * n + Int.toNat (σC.1 10 s))) i = true) → x + k = N → k < f → ∃ σC' τ', f_X0_doAsk_18 o f n s bits x σC = some σC' ∧ f_X7_goes_425 f n s cs bits x τ = some τ' ∧ ((Ok o σC τ σC' τ' ∧ (Org σC τ → Org σC' τ') ∧ (τ'.1 0 22 = 0 → ∀ y, (x ≤ y ∧ y < N) → lb bits y = true → 0 ≤ mnt σC τ s y → AskC σC τ n s y)) ∨ Ov o σC τ σC' τ') := by
  intro k
  induction k with
  | zero =>
    intro f x σC τ h h0 hn hs how hk hcs hN hbits hx hf
    obtain ⟨⟨t1, t2, -⟩, s7, s8, -⟩ := h.2.1
    obtain ⟨f, rfl⟩ : ∃ g, f = g + 1 := ⟨f - 1, by omega⟩
    rw [f_X0_doAsk_18, f_X7_goes_425, if_pos (show σC.1 (o + 9) 3 ≤ (x : Int) by omega), if_pos (show τ.1 0 29 ≤ (x : Int) by omega)]
    exact ⟨σC, τ, rfl, rfl, Or.inl ⟨Ok.rf h, id, fun _ y hy => by omega⟩⟩
  | succ k ih =>
    intro f x σC τ h h0 hn hs how hk hcs hN hbits hx hf
    obtain ⟨⟨t1, t2, -⟩, s7, s8, -⟩ := h.2.1
    obtain ⟨f, rfl⟩ : ∃ g, f = g + 1 := ⟨f - 1, by omega⟩
    obtain ⟨g, rfl⟩ : ∃ g, f = g + 1 := ⟨f - 1, by omega⟩
    have hxn : (x : Int) < τ.1 0 29 := by omega
    have cc : (x : Int) + 1 = ((x + 1 : Nat) : Int) := by omega
    by_cases hb : lb bits x = true ∧ 0 ≤ mnt σC τ s x
    · obtain ⟨cx, tC, σa, σ1, τ0, τa, τ1, tM, c1, c2, c3, m1, m2, hcase⟩ := ask_one ho h h0 hn hs how hk hxn hb.2
      rw [e_ask_do h hs hk hxn hb.1 hb.2 c1 c2 c3]
      have hg := g_methodAskedOf h hs hk hxn
      rw [g_classOf h hxn, bind_s, hcs] at hg
      have eM : f_X7_goes_425 (g + 1 + 1) n s cs bits x τ = if (τa.1 0 23) = 0 then (f_X7_holds tM 0 (lShl 1 x) τa).bind (fun r63 => (f_X7_joins n s tM r63).bind (fun r66 => f_X7_goes_425 (g + 1) n s cs bits ((x + 1 : Nat) : Int) r66)) else f_X7_goes_425 (g + 1) n s cs bits ((x + 1 : Nat) : Int) τa := by
        rw [f_X7_goes_425, if_neg (by omega), if_pos h0, if_pos ((lbit1 bits (by omega)).mpr hb.1), g_classOf h hxn, bind_s, hg, bind_s]
        unfold f_X7_goes_469
        rw [if_neg (by omega), m1, bind_s, m2, bind_s]
        simp only [cc, ck_pos (show inR (((x + 1 : Nat)) : Int) by omega)]
      rw [eM]
      rcases hcase with ⟨z1, ⟨τb, z2, z2'⟩, z3, z4, z5, z6⟩ | ⟨z1, z2, z3, z4, z5, z6, z7⟩
      · rw [if_pos z1, z2, bind_s, z2', bind_s]
        have hpr := CF_prog ho z3.2.1
        have M1 := z3.2.2.1.1
        obtain ⟨o1, o2, -, -, o5, -⟩ := PR_okS h.1 hs
        obtain ⟨σC', τ', r1, r2, r3⟩ := ih (g + 1) (x + 1) σ1 τ1 z3.1 (by rw [z3.2.2.2.2, h0]) (by have := M1.2.1.1; omega) (by rw [hpr 1 (by omega) (by omega)]; exact hs) (by rw [hpr 13 (by omega) (by omega), (M1.2.2.1 n hn).1]; exact how) (by rw [hpr 8 (by omega) (by omega)]; exact hk) (by rw [hpr 11 (by omega) (by omega)]; exact hcs) (by omega) (fun i hi => by rw [hpr 10 (by omega) (by omega)]; exact M1.2.2.2.2.1 _ (by omega) _ (hbits i hi)) (by omega) (by omega)
        refine ⟨σC', τ', r1, r2, ?_⟩
        rcases r3 with ⟨r3, r4, r5⟩ | r3
        · refine Or.inl ⟨z3.tr r3, fun hO => r4 (z5 (hbits x hb.1) hO), fun z y hy q1 q2 => ?_⟩
          obtain ⟨w1, w2⟩ := r3.2.2.1.same z
          by_cases e : y = x
          · subst e; exact z6 w1
          · obtain ⟨w3, w4⟩ := z3.2.2.1.same w1
            have e17 := (M1.2.2.2.1 y (by omega)).1
            obtain ⟨t, v1, ⟨v2, v3, v4⟩, v5, v6⟩ := r5 z y (by omega) q1 (by rw [mnt_frame hpr e17]; exact q2)
            have ht : (t : Int) < τ.1 0 24 := by have := w4.1; omega
            obtain ⟨b0, b1, b2⟩ := M1.2.2.1 t ht
            obtain ⟨-, cw⟩ := ctx_mono h M1 (s : Int) hn
            obtain ⟨cw1, cw2⟩ := cw y (by omega)
            refine ⟨t, ht, ⟨?_, ?_, ?_⟩, ?_, JnC_same ho h z3.2.1 M1 w4 hn ht hs how (Or.inl hk) v6⟩
            · rw [← b0, v2, mnt_frame hpr e17]
            · rw [← b1, v3, cw1]
            · rw [← b2, v4, cw2]
            · rw [w4.2.2.1 _ (by omega)] at v5; exact v5
        · exact Or.inr (z3.ov r3)
      · rw [if_neg z1]
        subst z7
        have hpr := CF_prog ho (many_CF (o := o) (σ := σC) (z := 1))
        obtain ⟨σC', τ', r1, r2, r3, r4, r5⟩ := ask_cont ho (n := n) (s := s) (bits := bits) (N := N) k (g + 1) (x + 1) (stI σC (o + 9) 4 1) τ (RF_many ho h 1) h0 (by rw [stI_1, if_pos ⟨rfl, rfl⟩]) hn (by rw [hpr 1 (by omega) (by omega)]; exact hs) (by rw [hpr 13 (by omega) (by omega)]; exact how) (by rw [hpr 8 (by omega) (by omega)]; exact hk) hN (by omega) (by omega)
        have eE : f_X7_goes_425 (g + 1) n s cs bits ((x + 1 : Nat) : Int) τa = some τa := by
          rw [f_X7_goes_425]
          split
          · rfl
          · first | rfl | rw [if_neg z1]
        rw [eE]
        refine ⟨σC', τa, r1, rfl, Or.inr ⟨z6, ⟨?_, ⟨σC, ?_⟩, ?_⟩, r5, many_CF.tr r4, τ', r2, r3⟩⟩
        · rw [z3, stI_1, if_pos ⟨rfl, rfl⟩]
        · rw [z3]; exact RF_over ho z4 1
        · rw [z3]; exact z5.1.tr over_Mono
    · rw [← hcs, g_ask_skip h h0 hs hk hxn hb, hcs]
      obtain ⟨σC', τ', r1, r2, r3⟩ := ih (g + 1) (x + 1) σC τ h h0 hn hs how hk hcs hN hbits (by omega) (by omega)
      have rC : f_X0_doAsk_18 o (g + 1 + 1) n s bits x σC = some σC' := by
        by_cases hr : lShr bits (x : Int) = 0
        · obtain ⟨w1, w2⟩ := e_ask_exit (n := n) (s := s) (g := g) h hxn hr
          rw [w1, ← r1, w2]
        · rw [e_ask_skip h hs hk hxn hr hb, r1]
      refine ⟨σC', τ', rC, r2, ?_⟩
      rcases r3 with ⟨r3, r4, r5⟩ | r3
      · refine Or.inl ⟨r3, r4, fun z y hy q1 q2 => ?_⟩
        by_cases e : y = x
        · subst e; exact absurd ⟨q1, q2⟩ hb
        · exact r5 z y (by omega) q1 q2
      · exact Or.inr r3
/-! CALL -/
theorem call_sim {o : Nat} (ho : o = 15 ∨ o = 29) {σC τ : Mm} (h : RF o σC τ) (h0 : τ.1 0 23 = 0) {n s : Nat} (hn : (n : Int) < τ.1 0 24) (hs : (s : Int) < σC.1 1 2) (how : σC.1 13 s = τ.1 13 n) (hk : σC.1 8 s = 10) : ∃ σ1 τ1, f_X0_doCall o n s σC = some σ1 ∧ ((f_X7_context n s (-1) τ).bind (fun r119 => (f_X7_newNode (σC.1 11 s) r119).bind (fun r122 => (if (r122.2.1 0 23) = 0 then (f_X7_joins n s r122.1 r122.2).bind (fun r127 => some r127) else some r122.2)))) = some τ1 ∧ ((Ok o σC τ σ1 τ1 ∧ (Org σC τ → Org σ1 τ1) ∧ (τ1.1 0 22 = 0 → CallC σC τ n s)) ∨ Ov o σC τ σ1 τ1) := by
  obtain ⟨⟨t1, t2, -⟩, s7, s8, s9, s10, s11⟩ := h.2.1
  have h12 := h.1.1.2.2.1
  obtain ⟨o1, o2, -, -, o5, -, -, -, -, o10, -⟩ := PR_okS h.1 hs
  obtain ⟨τ0, m1, m2⟩ := g_ctxCall h (s := s) hn
  have c1 := e_ctxCall h (s := s) hn hs
  obtain ⟨x1, x2, x3, x4⟩ := (ctx_rng h hn hs).1
  have h00 := OT_RF ho h m2
  have U0 := OT_Up m2
  have fr : ∀ k j, ¬ (k = 0 ∧ (j = 34 ∨ j = 35)) → τ0.1 k j = τ.1 k j := m2.2.2.1
  have e19 := fr 0 19 (by decide)
  have hm : 0 ≤ σC.1 11 s ∧ σC.1 11 s < σC.1 1 1 := ⟨(o10 hk).1, (o10 hk).2.1⟩
  have eC : ∀ r6 : Int × Mm, f_X0_nodeFor o (σC.1 11 s) (pk (call1 τ n s) (call2 τ n)) σC = some r6 → f_X0_doCall o n s σC = f_X0_link o n s r6.1 0 r6.2 := fun r6 hr => by
    unfold f_X0_doCall
    rw [ck_pos (by omega), c1, bind_s, Int.toNat_natCast, hr, bind_s]
    cases f_X0_link o n s r6.1 0 r6.2 <;> rfl
  rcases node_sim ho h00 m2.1 m2.2.1 (m := σC.1 11 s) hm x1 x2 (by rw [e19]; exact x3) (by rw [e19]; exact x4) with ⟨t, σa, τa, q1, q2, q3, q4, ⟨q5, q6, q7⟩, q8, q9⟩ | ⟨q1, q2, q3⟩
  · have za : τa.1 0 23 = 0 := q3.2.2.2.2.trans ((fr 0 23 (by decide)).trans h0)
    have n24 := q3.2.2.1.1.2.1.1
    have e24 := fr 0 24 (by decide); have e29 := fr 0 29 (by decide)
    have prb := CF_prog ho q3.2.1
    have M0b : Mono τ τa := U0.1.tr q3.2.2.1.1
    obtain ⟨σ1, τ1, j1, j2, j3, j4⟩ := join_sim ho q3.1 (n := n) (s := s) (t := t) (by omega) (by omega) (by rw [prb 1 (by omega) (by omega)]; exact hs) (by rw [prb 13 (by omega) (by omega), (M0b.2.2.1 n hn).1]; exact how) (by rw [prb 8 (by omega) (by omega)]; exact Or.inr hk)
    have OkA : Ok o σC τ σC τ0 := ⟨h00, CF.rf, U0, rfl, fr 0 23 (by decide)⟩
    have OkAll : Ok o σC τ σ1 τ1 := (OkA.tr q3).tr j3.ok
    have k24 : τ1.1 0 24 = τa.1 0 24 := j3.2.2.1 0 24 (by decide)
    have Mt : Mono τa τ1 := j3.2.1.1
    refine ⟨σ1, τ1, ?_, ?_, Or.inl ⟨OkAll, fun hO => ?_, fun z => ?_⟩⟩
    · rw [eC _ q1]; exact j1
    · rw [m1, bind_s, q2, bind_s]
      show (if τa.1 0 23 = 0 then (f_X7_joins n s t τa).bind _ else some τa) = _
      rw [if_pos za, j2, bind_s]
    · refine Org_mono ho h OkAll.2.1 OkAll.2.2.1.1 hO (fun t' ht0 ht1 ht2 => ?_)
      rcases q8 with ⟨q8, -⟩ | ⟨q8, q8b, -⟩
      · rw [q8] at k24; omega
      · have htt : t' = t := by omega
        subst htt
        have hpr := CF_prog ho OkAll.2.1
        obtain ⟨⟨w1, w2⟩, -⟩ := ctx_mono h OkAll.2.2.1.1 (s : Int) hn
        obtain ⟨v0, v1, v2⟩ := Mt.2.2.1 t' q4
        refine ⟨n, s, by omega, by rw [hpr 1 (by omega) (by omega)]; exact hs, by rw [hpr 13 (by omega) (by omega), (OkAll.2.2.1.1.2.2.1 n hn).1]; exact how, Or.inl ⟨by rw [hpr 8 (by omega) (by omega)]; exact hk, ?_, ?_, ?_⟩⟩
        · rw [v0, q5, hpr 11 (by omega) (by omega)]
        · rw [v1, q6, w1]
        · rw [v2, q7, w2]
    · obtain ⟨z1, z2⟩ := j3.2.1.same z
      obtain ⟨z5, z6⟩ := q3.2.2.1.same z1
      obtain ⟨z7, z8⟩ := U0.same z5
      rcases q8 with ⟨q8, -⟩ | ⟨-, -, q8⟩
      · subst q8
        refine ⟨t, by omega, ⟨?_, ?_, ?_⟩, JnC_same ho h q3.2.1 M0b z8 hn (by omega) hs how (Or.inr hk) (j4 z)⟩
        · rw [← fr 13 t (by omega)]; exact q5
        · rw [← fr 14 t (by omega)]; exact q6
        · rw [← fr 15 t (by omega)]; exact q7
      · omega
  · refine ⟨stI σC (o + 9) 4 1, stI τ0 0 23 1, ?_, ?_, Or.inr ?_⟩
    · rw [eC _ q1]
      unfold f_X0_link
      rw [if_neg (by show ¬ (0 : Int) ≤ -1; omega)]
    · rw [m1, bind_s, q2, bind_s]
      show (if (stI τ0 0 23 1).1 0 23 = 0 then _ else some (stI τ0 0 23 1)) = _
      rw [if_neg (by rw [stI_1, if_pos ⟨rfl, rfl⟩]; decide)]
    · exact Ok.ov ⟨h00, CF.rf, U0, rfl, fr 0 23 (by decide)⟩ (Ov_now ho h00 q3)
/-! MAKE and ROW -/
theorem make_sim {o : Nat} (ho : o = 15 ∨ o = 29) {σC τ : Mm} (h : RF o σC τ) (h0 : τ.1 0 23 = 0) {n s : Nat} (hn : (n : Int) < τ.1 0 24) (hs : (s : Int) < σC.1 1 2) (how : σC.1 13 s = τ.1 13 n) (hk : σC.1 8 s ≤ 1) : ∃ σ1 τ1, ((f_X0_nameFor o n s σC).bind (fun r6 => (f_X0_addToVar o n (σC.1 9 s) r6.1 r6.2).bind (fun r9 => some r9))) = some σ1 ∧ ((f_X7_newName n s τ).bind (fun r84 => (if (r84.2.1 0 23) = 0 then (f_X7_holds n (σC.1 9 s) (lShl 1 r84.1) r84.2).bind (fun r89 => some r89) else some r84.2))) = some τ1 ∧ ((Ok o σC τ σ1 τ1 ∧ (Org σC τ → Org σ1 τ1) ∧ (τ1.1 0 22 = 0 → ∃ x : Nat, (x : Int) < τ.1 0 29 ∧ τ.1 17 x = s ∧ τ.1 18 x = n ∧ lb (τ.2 16 (8 * n + Int.toNat (σC.1 9 s))) x = true)) ∨ Ov o σC τ σ1 τ1) := by
  obtain ⟨⟨t1, t2, -⟩, s7, s8, s9, s10, s11⟩ := h.2.1
  obtain ⟨o1, o2, -⟩ := PR_okS h.1 hs
  obtain ⟨va, hva⟩ : ∃ va : Nat, σC.1 9 s = va := ⟨Int.toNat (σC.1 9 s), by omega⟩
  rw [hva, Int.toNat_natCast]
  rcases find_name h (n : Int) (s : Int) with ⟨x, x1, x2, x3, x4, x5⟩ | ⟨hno, x4, x5⟩
  · obtain ⟨σ1, τ1, q1, q2, q3, q4⟩ := hold_sim ho h hn (show va < 8 by omega) (x := lShl 1 x) (fun i hi => by rw [lb_bit (by omega)] at hi; omega)
    refine ⟨σ1, τ1, ?_, ?_, Or.inl ⟨q3.ok, fun hO => Org_mono ho h q3.2.2.2.2.1 q3.2.1.1 hO (fun t _ a1 a2 => by have := q3.2.2.1 0 24 (by decide); omega), fun z => ⟨x, x1, x2, x3, HdM_sub q4 z x ((lb_bit (by omega) x).mpr rfl)⟩⟩⟩
    · rw [e_nameFor_old x4, bind_s]
      show (f_X0_addToVar o n va (lShl 1 x) σC).bind _ = _
      rw [q1, bind_s]
    · rw [g_newName_old x1 s8.2 x5, bind_s]
      show (if τ.1 0 23 = 0 then (f_X7_holds n va (lShl 1 x) τ).bind _ else _) = _
      rw [if_pos h0, q2, bind_s]
  · obtain ⟨x, hx⟩ : ∃ x : Nat, τ.1 0 29 = x := ⟨Int.toNat (τ.1 0 29), by omega⟩
    by_cases h60 : x < 60
    · obtain ⟨σa, c1, c2⟩ := e_nameFor_new ho h.1 (t2.trans hx) h60 hs hk x4
      obtain ⟨τa, m1, m2⟩ := g_newName_new hx h60 (by rw [x5, hx])
      have hrf := RF_nm ho h hx h60 hn hs hk how hno c2 m2
      have a24 := m2.2.1 0 24 (by omega)
      obtain ⟨-, a7, -⟩ := hrf.2.1
      obtain ⟨σ1, d1, d2⟩ := e_addToVar (o := o) (σ := σa) (n := n) (v := va) (by omega) (by omega) (lShl 1 x)
      obtain ⟨τ1, e1, e2⟩ := g_holds (τ := τa) (n := n) (v := va) (by omega) (by omega) (lShl 1 x) (Or.inr m2.1.2.1)
      have hnb : lb (σa.2 (o + 1) (8 * n + va)) x = false := by
        obtain ⟨w1, w2⟩ := h.2.2.2.2.1 n va hn (by omega)
        rw [c2.2.2.2.2.2 _ _ (by omega), w1]
        cases hz : lb (τ.2 16 (8 * n + va)) x
        · rfl
        · have := w2 x hz; omega
      have hnn : ¬ (σa.2 (o + 1) (8 * n + va) ||| lShl 1 (x : Int)) = σa.2 (o + 1) (8 * n + va) := fun z => by
        have := or_sub.mp z x ((lb_bit (by omega) x).mpr rfl)
        rw [hnb] at this; cases this
      have d3 : HdC o (stI σa o 7 1) σ1 (o + 1) (8 * n + va) (lShl 1 x) := by
        refine ⟨fun k i hk' => by rw [stI_1, if_neg hk']; exact d2.1 k i hk', d2.2.1, d2.2.2.1, ?_⟩
        rw [d2.2.2.2, if_neg hnn, stI_2, if_neg hnn]
      have hbx : ∀ i, lb (lShl 1 (x : Int)) i = true → (i : Int) < τa.1 0 29 := fun i hi => by rw [lb_bit (by omega)] at hi; rw [m2.1.1]; omega
      have RF1 := RF_hd ho hrf hbx d3 e2 (Or.inl ⟨rfl, rfl, n, va, by omega, by omega, rfl⟩)
      have U1 : Up τ τ1 := (NmM_Up hx m2).tr (HdM_Up e2 (Or.inl ⟨rfl, by omega, by omega⟩))
      have C1 : CF o σC σ1 := (NmC_CF c2).tr (HdC_CF (by omega) d2)
      have n24 : τ1.1 0 24 = τ.1 0 24 := (e2.1 0 24 (by decide)).trans a24
      have more1 : τ1.1 0 22 = 1 := by
        rw [e2.2.2.2]; split
        · exact m2.1.2.1
        · rfl
      refine ⟨σ1, τ1, ?_, ?_, Or.inl ⟨⟨RF1, C1, U1, ?_, ?_⟩, fun hO => Org_mono ho h C1 U1.1 hO (fun t _ a1 a2 => by omega), fun z => by omega⟩⟩
      · rw [c1, bind_s]
        show (f_X0_addToVar o n va (lShl 1 x) σa).bind _ = _
        rw [d1, bind_s]
      · rw [m1, bind_s]
        show (if τa.1 0 23 = 0 then (f_X7_holds n va (lShl 1 x) τa).bind _ else _) = _
        rw [if_pos (by rw [m2.2.1 0 23 (by omega)]; exact h0), e1, bind_s]
      · rw [d2.1 _ _ (by omega), c2.2.1 _ _ (by omega)]
      · rw [e2.1 _ _ (by decide), m2.2.1 _ _ (by omega)]
    · have h6 : τ.1 0 29 = 60 := by omega
      refine ⟨stI σC (o + 9) 4 1, stI τ 0 23 1, ?_, ?_, Or.inr (Ov_now ho h (fun z => ?_))⟩
      · rw [e_nameFor_full (t2.trans h6) x4, bind_s]
        show (f_X0_addToVar o n va 0 (stI σC (o + 9) 4 1)).bind _ = _
        rw [e_addToVar0 (by omega) (by omega), bind_s]
      · rw [g_newName_full (by rw [x5, h6]), bind_s]
        show (if (stI τ 0 23 1).1 0 23 = 0 then _ else some (stI τ 0 23 1)) = _
        rw [if_neg (by rw [stI_1, if_pos ⟨rfl, rfl⟩]; decide)]
      · have := room_names h z
        omega
