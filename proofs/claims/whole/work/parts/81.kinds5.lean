/-! who leads to a NODE -/
def mnt (σC τ : Mm) (s y : Nat) : Int := σC.1 5 (mcl σC (xst τ y) * 8 + Int.toNat (σC.1 11 s))
def Led (σC τ : Mm) (k s t : Nat) : Prop := (σC.1 8 s = 10 ∧ τ.1 13 t = σC.1 11 s ∧ τ.1 14 t = call1 τ k s ∧ τ.1 15 t = call2 τ k) ∨ (σC.1 8 s = 9 ∧ ∃ y : Nat, (y : Int) < τ.1 0 29 ∧ lb (τ.2 16 (8 * k + Int.toNat (σC.1 10 s))) y = true ∧ mnt σC τ s y = τ.1 13 t ∧ τ.1 14 t = ask1 τ s y ∧ τ.1 15 t = ask2 τ k y)
def Org (σC τ : Mm) : Prop := ∀ t : Nat, 0 < t → (t : Int) < τ.1 0 24 → ∃ k s : Nat, k < t ∧ (s : Int) < σC.1 1 2 ∧ σC.1 13 s = τ.1 13 k ∧ Led σC τ k s t
theorem CF_prog {o : Nat} (ho : o = 15 ∨ o = 29) {σ σ' : Mm} (h : CF o σ σ') : ∀ k, 1 ≤ k → k ≤ 14 → σ'.1 k = σ.1 k := fun k _ h2 => by
  have h15 : 15 ≤ o := by rcases ho with rfl | rfl <;> decide
  exact (h k (Or.inl (by omega))).1
theorem ctx_mono {o : Nat} {σC τ τ' : Mm} (h : RF o σC τ) (hM : Mono τ τ') {k : Nat} (s : Int) (hk : (k : Int) < τ.1 0 24) : (call1 τ' k s = call1 τ k s ∧ call2 τ' k = call2 τ k) ∧ ∀ y : Nat, (y : Int) < τ.1 0 29 → ask1 τ' s y = ask1 τ s y ∧ ask2 τ' k y = ask2 τ k y := by
  have e18 : τ'.1 0 18 = τ.1 0 18 := hM.1.2 18 (by decide) (by decide) (by decide) (by decide) (by decide) (by decide)
  have e19 : τ'.1 0 19 = τ.1 0 19 := hM.1.2 19 (by decide) (by decide) (by decide) (by decide) (by decide) (by decide)
  obtain ⟨-, a1, a2⟩ := hM.2.2.1 k hk
  refine ⟨⟨?_, ?_⟩, fun y hy => ⟨?_, ?_⟩⟩
  · unfold call1; rw [e18, e19, a1]
  · unfold call2; rw [e18, e19, a1, a2]
  · obtain ⟨b1, b2⟩ := hM.2.2.2.1 y hy
    unfold ask1; rw [e18, e19, b1]
  · obtain ⟨b1, b2⟩ := hM.2.2.2.1 y hy
    obtain ⟨-, -, -, x4, -⟩ := h.2.2.2.1 y hy
    obtain ⟨-, c1, -⟩ := hM.2.2.1 (Int.toNat (τ.1 18 y)) (by omega)
    unfold ask2; rw [e18, e19, a1, b2, c1]
theorem mnt_frame {σC σ' τ τ' : Mm} {s y : Nat} (hpr : ∀ k, 1 ≤ k → k ≤ 14 → σ'.1 k = σC.1 k) (e : τ'.1 17 y = τ.1 17 y) : mnt σ' τ' s y = mnt σC τ s y := by
  unfold mnt mcl xst
  rw [e, hpr 5 (by omega) (by omega), hpr 8 (by omega) (by omega), hpr 10 (by omega) (by omega), hpr 11 (by omega) (by omega)]
theorem Led_mono {o : Nat} {σC σ' τ τ' : Mm} (h : RF o σC τ) (hpr : ∀ k, 1 ≤ k → k ≤ 14 → σ'.1 k = σC.1 k) (hM : Mono τ τ') {k s t : Nat} (hk : (k : Int) < τ.1 0 24) (ht : (t : Int) < τ.1 0 24) (hs : (s : Int) < σC.1 1 2) (hl : Led σC τ k s t) : Led σ' τ' k s t := by
  obtain ⟨⟨c1, c2⟩, c3⟩ := ctx_mono h hM (s : Int) hk
  obtain ⟨a0, a1, a2⟩ := hM.2.2.1 t ht
  have h8 := hpr 8 (by omega) (by omega); have h11 := hpr 11 (by omega) (by omega); have h10 := hpr 10 (by omega) (by omega)
  obtain ⟨o1, -, -, -, o5, -⟩ := PR_okS h.1 hs
  rcases hl with ⟨l1, l2, l3, l4⟩ | ⟨l1, y, l2, l3, l4, l5, l6⟩
  · left
    rw [h8, h11, a0, a1, a2, c1, c2]
    exact ⟨l1, l2, l3, l4⟩
  · right
    refine ⟨by rw [h8]; exact l1, y, by have := hM.2.1.2; omega, ?_, ?_, ?_, ?_⟩
    · rw [h10]
      exact hM.2.2.2.2.1 _ (by omega) _ l3
    · rw [mnt_frame hpr (hM.2.2.2.1 y l2).1, a0]; exact l4
    · rw [a1, (c3 y l2).1]; exact l5
    · rw [a2, (c3 y l2).2]; exact l6
theorem Org_mono {o : Nat} (ho : o = 15 ∨ o = 29) {σC σ' τ τ' : Mm} (h : RF o σC τ) (hC : CF o σC σ') (hM : Mono τ τ') (hO : Org σC τ) (hnew : ∀ t : Nat, 0 < t → τ.1 0 24 ≤ t → (t : Int) < τ'.1 0 24 → ∃ k s : Nat, k < t ∧ (s : Int) < σ'.1 1 2 ∧ σ'.1 13 s = τ'.1 13 k ∧ Led σ' τ' k s t) : Org σ' τ' := by
  have hpr := CF_prog ho hC
  intro t h0 ht
  by_cases h1 : (t : Int) < τ.1 0 24
  · obtain ⟨k, s, q1, q2, q3, q4⟩ := hO t h0 h1
    exact ⟨k, s, q1, by rw [hpr 1 (by omega) (by omega)]; exact q2, by rw [hpr 13 (by omega) (by omega), (hM.2.2.1 k (by omega)).1]; exact q3, Led_mono h hpr hM (by omega) h1 q2 q4⟩
  · exact hnew t h0 (by omega) ht
theorem JnC_same {o : Nat} (ho : o = 15 ∨ o = 29) {σC σ' τ τ' : Mm} {n s t : Nat} (h : RF o σC τ) (hC : CF o σC σ') (hM : Mono τ τ') (hS : Same τ τ') (hn : (n : Int) < τ.1 0 24) (ht : (t : Int) < τ.1 0 24) (hs : (s : Int) < σC.1 1 2) (how : σC.1 13 s = τ.1 13 n) (hk : σC.1 8 s = 9 ∨ σC.1 8 s = 10) (hj : JnC σ' τ' n s t) : JnC σC τ n s t := by
  have hpr := CF_prog ho hC
  obtain ⟨j1, j2, j3⟩ := hj
  obtain ⟨o1, o2, -, -, -, -, -, -, o9, -⟩ := PR_okS h.1 hs
  have S : ∀ j : Nat, (j : Int) < 8 * τ.1 0 24 → τ'.2 16 j = τ.2 16 j := hS.2.2.1
  rw [hpr 12 (by omega) (by omega), S _ (by omega), S _ (by omega)] at j1
  rw [hpr 9 (by omega) (by omega), S _ (by omega), S _ (by omega)] at j2
  rw [S _ (by omega)] at j3
  obtain ⟨-, n3, -⟩ := h.2.2.1 n hn
  have b7 := (h.2.2.2.2.1 t 7 ht (by omega)).2
  exact ⟨j1, j2, RsC_same hpr (hM.2.2.1 n hn).1 (fun i hi => (hM.2.2.2.1 i (b7 i hi)).1) (fun j _ hj2 => S j (by omega)) h.1 n3 hs how j3⟩
/-! ASK: one receiver -/
def AskC (σC τ : Mm) (n s y : Nat) : Prop := ∃ t : Nat, (t : Int) < τ.1 0 24 ∧ (τ.1 13 t = mnt σC τ s y ∧ τ.1 14 t = ask1 τ s y ∧ τ.1 15 t = ask2 τ n y) ∧ lb (τ.2 16 (8 * t + 0)) y = true ∧ JnC σC τ n s t
def CallC (σC τ : Mm) (n s : Nat) : Prop := ∃ t : Nat, (t : Int) < τ.1 0 24 ∧ (τ.1 13 t = σC.1 11 s ∧ τ.1 14 t = call1 τ n s ∧ τ.1 15 t = call2 τ n) ∧ JnC σC τ n s t
theorem mnt_lt {o : Nat} {σC τ : Mm} (h : RF o σC τ) {s y : Nat} (hs : (s : Int) < σC.1 1 2) (hk : σC.1 8 s = 9) (hy : (y : Int) < τ.1 0 29) : -1 ≤ mnt σC τ s y ∧ mnt σC τ s y < σC.1 1 1 := by
  have hP := h.1
  obtain ⟨-, x2, x3, -⟩ := h.2.2.2.1 y hy
  have hxs : ((xst τ y : Nat) : Int) < σC.1 1 2 := by unfold xst; omega
  have hml := mcl_lt hP hxs x3
  obtain ⟨o1, -, -, -, -, -, o7, -⟩ := PR_okS hP hs
  obtain ⟨-, -, q3, q4⟩ := hP.2.2.2.1 (mcl σC (xst τ y)) (Int.toNat (σC.1 11 s)) hml (by omega)
  have h1 := hP.1.2.1
  unfold mnt
  refine ⟨q3, ?_⟩
  by_cases hz : 0 ≤ σC.1 5 (mcl σC (xst τ y) * 8 + Int.toNat (σC.1 11 s))
  · exact (q4 hz).1
  · omega
theorem e_methodAskedOf {o : Nat} {σC τ : Mm} (h : RF o σC τ) {s y : Nat} (hs : (s : Int) < σC.1 1 2) (hk : σC.1 8 s = 9) (hy : (y : Int) < τ.1 0 29) : f_X0_methodAskedOf o y s σC = some (mnt σC τ s y) := by
  have hP := h.1
  have s8 := h.2.1.2.2.1
  have h12 := hP.1.2.2.1
  have h10 := hP.1.1
  obtain ⟨⟨y1, -⟩, x2, x3, -⟩ := h.2.2.2.1 y hy
  have hxs : ((xst τ y : Nat) : Int) < σC.1 1 2 := by unfold xst; omega
  have hml := mcl_lt hP hxs x3
  obtain ⟨o1, -, -, -, -, -, o7, -⟩ := PR_okS hP hs
  unfold f_X0_methodAskedOf mnt
  have e : τ.1 17 y = ((xst τ y : Nat) : Int) := by unfold xst; omega
  obtain ⟨c, hc⟩ : ∃ c : Nat, σC.1 11 s = c := ⟨Int.toNat (σC.1 11 s), by omega⟩
  rw [ck_pos (by omega), Int.toNat_natCast, y1, e, e_madeClass hP hxs x3, bind_s, ck_pos (by omega), Int.toNat_natCast, hc, e_methodFor (by omega) (by omega), bind_s, Int.toNat_natCast]
theorem g_methodAskedOf {o : Nat} {σC τ : Mm} (h : RF o σC τ) {s y : Nat} (hs : (s : Int) < σC.1 1 2) (hk : σC.1 8 s = 9) (hy : (y : Int) < τ.1 0 29) : (f_X7_classOf y τ).bind (fun r => f_X7_methodFor r (σC.1 11 s) τ) = some (mnt σC τ s y) := by
  have hP := h.1
  obtain ⟨-, x2, x3, -⟩ := h.2.2.2.1 y hy
  have hxs : ((xst τ y : Nat) : Int) < σC.1 1 2 := by unfold xst; omega
  have hml := mcl_lt hP hxs x3
  obtain ⟨o1, -, -, -, -, -, o7, -⟩ := PR_okS hP hs
  unfold mnt
  obtain ⟨c, hc⟩ : ∃ c : Nat, σC.1 11 s = c := ⟨Int.toNat (σC.1 11 s), by omega⟩
  rw [g_classOf h hy, bind_s, hc, g_methodFor hP.1 hP.2.1 hP.2.2.1 hP.2.2.2.1 hml (by omega), Int.toNat_natCast]
theorem ask_one {o : Nat} (ho : o = 15 ∨ o = 29) {σC τ : Mm} (h : RF o σC τ) (h0 : τ.1 0 23 = 0) {n s y : Nat} (hn : (n : Int) < τ.1 0 24) (hs : (s : Int) < σC.1 1 2) (how : σC.1 13 s = τ.1 13 n) (hk : σC.1 8 s = 9) (hy : (y : Int) < τ.1 0 29) (hm : 0 ≤ mnt σC τ s y) : ∃ (cx tC : Int) (σa σ1 τ0 τa τ1 : Mm) (tM : Int), f_X5_contextOfAsked o n s y σC = some cx ∧ f_X0_nodeFor o (mnt σC τ s y) cx σC = some (tC, σa) ∧ f_X0_link o n s tC (lShl 1 y) σa = some σ1 ∧ f_X7_context n s y τ = some τ0 ∧ f_X7_newNode (mnt σC τ s y) τ0 = some (tM, τa) ∧ ((τa.1 0 23 = 0 ∧ (∃ τb, f_X7_holds tM 0 (lShl 1 y) τa = some τb ∧ f_X7_joins n s tM τb = some τ1) ∧ Ok o σC τ σ1 τ1 ∧ τ1.1 0 29 = τ.1 0 29 ∧ (lb (τ.2 16 (8 * n + Int.toNat (σC.1 10 s))) y = true → Org σC τ → Org σ1 τ1) ∧ (τ1.1 0 22 = 0 → AskC σC τ n s y)) ∨ (¬ τa.1 0 23 = 0 ∧ τ1 = τa ∧ τa = stI τ0 0 23 1 ∧ RF o σC τ0 ∧ Up τ τ0 ∧ τ.1 0 19 ≠ 0 ∧ σ1 = stI σC (o + 9) 4 1)) := by
  obtain ⟨⟨t1, t2, -⟩, s7, s8, s9, s10, s11⟩ := h.2.1
  have hml := mnt_lt h hs hk hy
  obtain ⟨o1, o2, -, -, o5, -, o7, -⟩ := PR_okS h.1 hs
  obtain ⟨τ0, m1, m2⟩ := g_ctxAsk h (s := s) hn hy
  have c1 := e_ctxAsk h (s := s) hn hy hs
  obtain ⟨x1, x2, x3, x4⟩ := (ctx_rng h hn hs).2 y hy
  have h00 := OT_RF ho h m2
  have U0 := OT_Up m2
  have fr : ∀ k j, ¬ (k = 0 ∧ (j = 34 ∨ j = 35)) → τ0.1 k j = τ.1 k j := m2.2.2.1
  have e19 := fr 0 19 (by decide)
  rcases node_sim ho h00 m2.1 m2.2.1 (m := mnt σC τ s y) ⟨hm, hml.2⟩ x1 x2 (by rw [e19]; exact x3) (by rw [e19]; exact x4) with ⟨t, σa, τa, q1, q2, q3, q4, ⟨q5, q6, q7⟩, q8, q9⟩ | ⟨q1, q2, q3⟩
  · have za : τa.1 0 23 = 0 := q3.2.2.2.2.trans ((fr 0 23 (by decide)).trans h0)
    have n24 := q3.2.2.1.1.2.1.1
    have e24 := fr 0 24 (by decide); have e29 := fr 0 29 (by decide)
    obtain ⟨⟨u1, u2, -⟩, u7, u8, -⟩ := q3.1.2.1
    obtain ⟨σb, τb, b1, b2, b3, b4⟩ := hold_sim ho q3.1 (n := t) q4 (show 0 < 8 by omega) (x := lShl 1 y) (fun i hi => by rw [lb_bit (by omega)] at hi; omega)
    rw [show ((0 : Nat) : Int) = 0 from rfl] at b1 b2
    have prb := CF_prog ho (q3.2.1.tr b3.2.2.2.2.1)
    have g24 := b3.2.2.1 0 24 (by decide); have g29 := b3.2.2.1 0 29 (by decide)
    have M0b : Mono τ τb := U0.1.tr (q3.2.2.1.1.tr b3.2.1.1)
    obtain ⟨σ1, τ1, j1, j2, j3, j4⟩ := join_sim ho b3.1 (n := n) (s := s) (t := t) (by omega) (by omega) (by rw [prb 1 (by omega) (by omega)]; exact hs) (by rw [prb 13 (by omega) (by omega), (M0b.2.2.1 n hn).1]; exact how) (by rw [prb 8 (by omega) (by omega)]; exact Or.inl hk)
    have OkA : Ok o σC τ σC τ0 := ⟨h00, CF.rf, U0, rfl, fr 0 23 (by decide)⟩
    have OkAll : Ok o σC τ σ1 τ1 := ((OkA.tr q3).tr b3.ok).tr j3.ok
    have k29 : τ1.1 0 29 = τ.1 0 29 := by have := j3.2.2.1 0 29 (by decide); omega
    have k24 : τ1.1 0 24 = τa.1 0 24 := by have := j3.2.2.1 0 24 (by decide); omega
    have Mt : Mono τa τ1 := b3.2.1.1.tr j3.2.1.1
    refine ⟨_, t, σa, σ1, τ0, τa, τ1, t, c1, q1, ?_, m1, q2, Or.inl ⟨za, ⟨τb, b2, j2⟩, OkAll, k29, fun hyb hO => ?_, fun z => ?_⟩⟩
    · rw [link_recv (by omega), b1, bind_s, j1]
    · refine Org_mono ho h OkAll.2.1 OkAll.2.2.1.1 hO (fun t' ht0 ht1 ht2 => ?_)
      rcases q8 with ⟨q8, -⟩ | ⟨q8, q8b, -⟩
      · rw [q8] at k24; omega
      · have htt : t' = t := by omega
        subst htt
        have hpr := CF_prog ho OkAll.2.1
        obtain ⟨-, w⟩ := ctx_mono h OkAll.2.2.1.1 (s : Int) hn
        obtain ⟨w1, w2⟩ := w y hy
        obtain ⟨v0, v1, v2⟩ := Mt.2.2.1 t' q4
        refine ⟨n, s, by omega, by rw [hpr 1 (by omega) (by omega)]; exact hs, by rw [hpr 13 (by omega) (by omega), (OkAll.2.2.1.1.2.2.1 n hn).1]; exact how, Or.inr ⟨by rw [hpr 8 (by omega) (by omega)]; exact hk, y, by omega, ?_, ?_, ?_, ?_⟩⟩
        · rw [hpr 10 (by omega) (by omega)]
          exact OkAll.2.2.1.1.2.2.2.2.1 _ (by omega) _ hyb
        · rw [mnt_frame hpr (OkAll.2.2.1.1.2.2.2.1 y hy).1, v0, q5]
        · rw [v1, q6, w1]
        · rw [v2, q7, w2]
    · obtain ⟨z1, z2⟩ := j3.2.1.same z
      obtain ⟨z3, z4⟩ := b3.2.1.same z1
      obtain ⟨z5, z6⟩ := q3.2.2.1.same z3
      obtain ⟨z7, z8⟩ := U0.same z5
      rcases q8 with ⟨q8, -⟩ | ⟨-, -, q8⟩
      · subst q8
        have S : Same τ τb := z8.tr z4
        refine ⟨t, by omega, ⟨?_, ?_, ?_⟩, ?_, ?_⟩
        · rw [← fr 13 t (by omega)]; exact q5
        · rw [← fr 14 t (by omega)]; exact q6
        · rw [← fr 15 t (by omega)]; exact q7
        · have := HdM_sub b4 z1 y ((lb_bit (by omega) y).mpr rfl)
          rw [m2.2.2.2] at this
          exact this
        · exact JnC_same ho h (q3.2.1.tr b3.2.2.2.2.1) M0b S hn (by omega) hs how (Or.inl hk) (j4 z)
      · omega
  · refine ⟨_, -1, stI σC (o + 9) 4 1, stI σC (o + 9) 4 1, τ0, stI τ0 0 23 1, stI τ0 0 23 1, 0, c1, q1, ?_, m1, q2, Or.inr ⟨by rw [stI_1, if_pos ⟨rfl, rfl⟩]; decide, rfl, rfl, h00, U0, by rw [← e19]; exact q3, rfl⟩⟩
    unfold f_X0_link
    rw [if_neg (by omega)]
