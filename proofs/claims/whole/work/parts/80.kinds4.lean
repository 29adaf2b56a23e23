/-! what is raised at a STEP -/
def RsC (σC τ : Mm) (n s : Nat) (bits : Int64) : Prop := ∀ i, lb bits i = true → lb (τ.2 16 (8 * n + gVar σC (Int.toNat (τ.1 13 n)) (σC.1 14 s) (mcl σC (xst τ i)) (Int.toNat (σC.1 14 s)))) i = true
theorem raise_sim {o : Nat} (ho : o = 15 ∨ o = 29) {σC τ : Mm} (h : RF o σC τ) {n s : Nat} (hn : (n : Int) < τ.1 0 24) (hs : (s : Int) < σC.1 1 2) (how : σC.1 13 s = τ.1 13 n) {bits : Int64} (hb : ∀ i, lb bits i = true → (i : Int) < τ.1 0 29) : ∃ σC' τ', f_X0_raiseAt o n s bits σC = some σC' ∧ f_X7_raised n s bits τ = some τ' ∧ Gr o σC τ σC' τ' ∧ (τ'.1 0 22 = 0 → RsC σC τ n s bits) := by
  obtain ⟨⟨t1, t2, -⟩, s7, s8, s9, s10, s11⟩ := h.2.1
  have hP := h.1
  have h12 := hP.1.2.2.1
  have hpl := PR_place hP hs
  obtain ⟨⟨-, w2, -⟩, w3, w4, -⟩ := hP.2.2.2.2.2.1 s hs
  obtain ⟨-, n3, -⟩ := h.2.2.1 n hn
  have hm : ((Int.toNat (τ.1 13 n) : Nat) : Int) = τ.1 13 n := by omega
  have hle : ((Int.toNat (σC.1 14 s) : Nat) : Int) ≤ σC.1 6 (Int.toNat (τ.1 13 n)) := by rw [how] at w4; omega
  obtain ⟨σC', τ', k1, k2, k3, k4⟩ := raise_aux ho (n := n) (s := s) (m := Int.toNat (τ.1 13 n)) (at' := σC.1 14 s) (Int.toNat (σC.1 14 s)) 2000 bits σC τ h hn hs rfl (by omega) hle hb (by omega)
  have e : ((Int.toNat (σC.1 14 s) : Nat) : Int) - 1 = σC.1 14 s - 1 := by omega
  rw [e] at k1 k2
  rw [hm] at k2
  refine ⟨σC', τ', ?_, ?_, k3, k4⟩
  · unfold f_X0_raiseAt
    rw [ck_pos (by omega), Int.toNat_natCast, ck_pos (by omega), k1]
  · unfold f_X7_raised
    rw [ck_pos (by omega), ck_pos (by omega), Int.toNat_natCast, Int.toNat_natCast, w2, ck_pos (by omega), k2]
theorem e_addToVar0 {o : Nat} {σ : Mm} {n v : Nat} (hn : n < 80) (hv : v < 8) : f_X0_addToVar o n v 0 σ = some σ := by
  unfold f_X0_addToVar
  rw [ck_pos (by omega), ck_pos (by omega), if_pos (lb_ext (fun i _ => by rw [lb_and, lb_0]; rfl))]
/-! a NODE leads to another -/
def JnC (σC τ : Mm) (n s t : Nat) : Prop := (∀ i, lb (τ.2 16 (8 * n + Int.toNat (σC.1 12 s))) i = true → lb (τ.2 16 (8 * t + 1)) i = true) ∧ (∀ i, lb (τ.2 16 (8 * t + 6)) i = true → lb (τ.2 16 (8 * n + Int.toNat (σC.1 9 s))) i = true) ∧ RsC σC τ n s (τ.2 16 (8 * t + 7))
theorem RsC_same {σC σ' τ τ' : Mm} {n s : Nat} {bits : Int64} (hpr : ∀ k, 1 ≤ k → k ≤ 14 → σ'.1 k = σC.1 k) (e13 : τ'.1 13 n = τ.1 13 n) (e17 : ∀ i, lb bits i = true → τ'.1 17 i = τ.1 17 i) (hs : ∀ j, 8 * n ≤ j → j < 8 * n + 8 → τ'.2 16 j = τ.2 16 j) (hP : PR σC τ) (hn : 0 ≤ τ.1 13 n ∧ τ.1 13 n < σC.1 1 1) (hst : (s : Int) < σC.1 1 2) (how : σC.1 13 s = τ.1 13 n) (h : RsC σ' τ' n s bits) : RsC σC τ n s bits := fun i hi => by
  have := h i hi
  have mce : ∀ i, mcl σ' i = mcl σC i := fun i => by unfold mcl; rw [hpr 8 (by omega) (by omega), hpr 10 (by omega) (by omega)]
  have xse : xst τ' i = xst τ i := by unfold xst; rw [e17 i hi]
  rw [gVar_frame hpr, mce, xse, e13, hpr 14 (by omega) (by omega)] at this
  obtain ⟨-, w3, w4, -⟩ := hP.2.2.2.2.2.1 s hst
  have hlt := gVar_lt hP (m := Int.toNat (τ.1 13 n)) (by omega) (at' := σC.1 14 s) (c := mcl σC (xst τ i)) (p := Int.toNat (σC.1 14 s)) (by rw [how] at w4; omega)
  rw [hs _ (by omega) (by omega)] at this
  exact this
theorem join_sim {o : Nat} (ho : o = 15 ∨ o = 29) {σC τ : Mm} (h : RF o σC τ) {n s t : Nat} (hn : (n : Int) < τ.1 0 24) (ht : (t : Int) < τ.1 0 24) (hs : (s : Int) < σC.1 1 2) (how : σC.1 13 s = τ.1 13 n) (hk : σC.1 8 s = 9 ∨ σC.1 8 s = 10) : ∃ σC' τ', f_X0_link o n s t 0 σC = some σC' ∧ f_X7_joins n s t τ = some τ' ∧ Gr o σC τ σC' τ' ∧ (τ'.1 0 22 = 0 → JnC σC τ n s t) := by
  have h15 : 15 ≤ o := by rcases ho with rfl | rfl <;> decide
  obtain ⟨⟨t1, t2, -⟩, s7, s8, s9, s10, s11⟩ := h.2.1
  have hP := h.1
  have h12 := hP.1.2.2.1
  obtain ⟨-, n3, -⟩ := h.2.2.1 n hn
  obtain ⟨⟨-, w2, w3, w4, w5, w6, w7⟩, -⟩ := hP.2.2.2.2.2.1 s hs
  obtain ⟨o1, o2, -, -, -, -, -, -, o9, -⟩ := PR_okS hP hs
  obtain ⟨va, hva⟩ : ∃ va : Nat, σC.1 9 s = va := ⟨Int.toNat (σC.1 9 s), by omega⟩
  obtain ⟨vd, hvd⟩ : ∃ vd : Nat, σC.1 12 s = vd := ⟨Int.toNat (σC.1 12 s), by omega⟩
  obtain ⟨d1, d2⟩ := h.2.2.2.2.1 n vd hn (by omega)
  obtain ⟨σ1, τ1, q1, q2, q3, q4⟩ := hold_sim ho h ht (show 1 < 8 by omega) (x := τ.2 16 (8 * n + vd)) d2
  have a24 := q3.2.2.1 0 24 (by decide); have a29 := q3.2.2.1 0 29 (by decide)
  have b1 : σ1.1 9 s = va := (q3.2.2.2.1 9 s (by omega)).trans hva
  have b2 : τ1.1 9 s = va := (q3.2.2.1 9 s (by omega)).trans (by omega)
  obtain ⟨g1, g2⟩ := q3.1.2.2.2.2.1 t 6 (by omega) (by omega)
  obtain ⟨σ2, τ2, u1, u2, u3, u4⟩ := hold_sim ho q3.1 (n := n) (by omega) (show va < 8 by omega) (x := τ1.2 16 (8 * t + 6)) g2
  have c24 := u3.2.2.1 0 24 (by decide); have c29 := u3.2.2.1 0 29 (by decide)
  have pr2 := Gr_prog ho (q3.tr u3)
  obtain ⟨e1, e2⟩ := u3.1.2.2.2.2.1 t 7 (by omega) (by omega)
  have f13 : τ2.1 13 n = τ.1 13 n := (q3.tr u3).2.2.1 13 n (by omega)
  obtain ⟨σ3, τ3, v1, v2, v3, v4⟩ := raise_sim ho u3.1 (n := n) (s := s) (by omega) (by rw [pr2 1 (by omega) (by omega)]; exact hs) (by rw [pr2 13 (by omega) (by omega), f13]; exact how) (bits := τ2.2 16 (8 * t + 7)) e2
  refine ⟨σ3, τ3, ?_, ?_, (q3.tr u3).tr v3, fun z => ?_⟩
  · unfold f_X0_link
    rw [show ((0 : Int)) = ((0 : Nat) : Int) from rfl, show ((1 : Int)) = ((1 : Nat) : Int) from rfl, show ((6 : Int)) = ((6 : Nat) : Int) from rfl, show ((7 : Int)) = ((7 : Nat) : Int) from rfl]
    rw [if_pos (by omega), e_addToVar0 (by omega) (by omega), bind_s, ck_pos (by omega), Int.toNat_natCast, hvd, e_setOf (by omega) (by omega), bind_s, d1, q1, bind_s, ck_pos (by omega), e_setOf (by omega) (by omega), bind_s, g1, b1, u1, bind_s, e_setOf (by omega) (by omega), bind_s, e1, v1, bind_s]
  · unfold f_X7_joins
    rw [show ((1 : Int)) = ((1 : Nat) : Int) from rfl, show ((6 : Int)) = ((6 : Nat) : Int) from rfl, show ((7 : Int)) = ((7 : Nat) : Int) from rfl]
    rw [ck_pos (by omega), Int.toNat_natCast, w7, hvd, ck_pos (by omega), show Int.toNat (8 * (n : Int) + vd) = 8 * n + vd by omega, q2, bind_s, ck_pos (by omega), ck_pos (by omega), b2, show Int.toNat (8 * (t : Int) + ((6 : Nat) : Int)) = 8 * t + 6 by omega, u2, bind_s, ck_pos (by omega), show Int.toNat (8 * (t : Int) + ((7 : Nat) : Int)) = 8 * t + 7 by omega, v2, bind_s]
  · obtain ⟨z1, z2⟩ := v3.2.1.same z
    obtain ⟨z3, z4⟩ := u3.2.1.same z1
    obtain ⟨z5, z6⟩ := q3.2.1.same z3
    have S1 : ∀ j : Nat, (j : Int) < 8 * τ.1 0 24 → τ1.2 16 j = τ.2 16 j := z6.2.2.1
    have S2 : ∀ j : Nat, (j : Int) < 8 * τ.1 0 24 → τ2.2 16 j = τ.2 16 j := fun j hj => (z4.2.2.1 j (by omega)).trans (S1 j hj)
    refine ⟨?_, ?_, ?_⟩
    · rw [hvd, Int.toNat_natCast]; exact HdM_sub q4 z3
    · rw [hva, Int.toNat_natCast]
      intro i hi
      have := HdM_sub u4 z1 i (by rw [S1 _ (by omega)]; exact hi)
      rw [S1 _ (by omega)] at this
      exact this
    · have := v4 z
      rw [S2 _ (by omega)] at this
      exact RsC_same pr2 f13 (fun i _ => (q3.tr u3).2.2.1 17 i (by omega)) (fun j _ hj2 => S2 j (by omega)) hP n3 hs how this
/-- with a receiver -/
theorem link_recv {o : Nat} {σC : Mm} {n s t : Nat} {x : Int64} (ht : t < 80) : f_X0_link o n s t x σC = (f_X0_addToVar o t 0 x σC).bind (fun r => f_X0_link o n s t 0 r) := by
  have e : ∀ r : Mm, f_X0_addToVar o t 0 0 r = some r := fun r => e_addToVar0 ht (by omega) (v := 0)
  unfold f_X0_link
  rw [if_pos (by omega)]
  cases f_X0_addToVar o t 0 x σC with
  | none => rfl
  | some r =>
    rw [bind_s, bind_s, if_pos (by omega), e, bind_s]
/-! a NODE for a METHOD and a CONTEXT -/
theorem node_sim {o : Nat} (ho : o = 15 ∨ o = 29) {σC τ : Mm} (h : RF o σC τ) {m a b : Int} (ha : τ.1 0 34 = a) (hb : τ.1 0 35 = b) (hm : 0 ≤ m ∧ m < σC.1 1 1) (ra : -1 ≤ a ∧ a ≤ 189) (rb : -1 ≤ b ∧ b ≤ 189) (da : τ.1 0 19 = 0 → a = -1) (db : τ.1 0 19 < 2 → b = -1) : (∃ (t : Nat) (σC' τ' : Mm), f_X0_nodeFor o m (pk a b) σC = some ((t : Int), σC') ∧ f_X7_newNode m τ = some ((t : Int), τ') ∧ Ok o σC τ σC' τ' ∧ (t : Int) < τ'.1 0 24 ∧ (τ'.1 13 t = m ∧ τ'.1 14 t = a ∧ τ'.1 15 t = b) ∧ ((τ' = τ ∧ σC' = σC) ∨ (τ.1 0 24 = t ∧ τ'.1 0 24 = t + 1 ∧ τ'.1 0 22 = 1)) ∧ τ'.1 0 29 = τ.1 0 29) ∨ (f_X0_nodeFor o m (pk a b) σC = some (-1, stI σC (o + 9) 4 1) ∧ f_X7_newNode m τ = some (0, stI τ 0 23 1) ∧ τ.1 0 19 ≠ 0) := by
  obtain ⟨⟨t1, t2, -⟩, s7, s8, s9, s10, s11⟩ := h.2.1
  rcases find_node h ha hb ra rb (m := m) with ⟨n, n1, n2, n3, n4, n5, n6⟩ | ⟨hno, n5, n6⟩
  · exact Or.inl ⟨n, σC, τ, e_nodeFor_old n5, g_newNode_old n1 s7.2 n6, Ok.rf h, n1, ⟨n2, n3, n4⟩, Or.inl ⟨rfl, rfl⟩, rfl⟩
  · obtain ⟨n, hn⟩ : ∃ n : Nat, τ.1 0 24 = n := ⟨Int.toNat (τ.1 0 24), by omega⟩
    by_cases h80 : n < 80
    · left
      obtain ⟨σC', c1, c2⟩ := e_nodeFor_new (t1.trans hn) h80 n5
      obtain ⟨τ', m1, m2⟩ := g_newNode_new hn h80 (by rw [n6, hn])
      rw [ha, hb] at m2
      have hrf := RF_nd ho h hn h80 hm ra rb da db hno c2 m2
      refine ⟨n, σC', τ', c1, m1, ⟨hrf, NdC_CF c2, NdM_Up hn m2, c2.2.1 _ _ (by omega), m2.2.1 _ _ (by omega)⟩, by rw [m2.1.1]; omega, m2.1.2.2, Or.inr ⟨hn, m2.1.1, m2.1.2.1⟩, m2.2.1 _ _ (by omega)⟩
    · right
      have h8 : τ.1 0 24 = 80 := by omega
      refine ⟨e_nodeFor_full (t1.trans h8) n5, g_newNode_full (by rw [n6, h8]), fun z => ?_⟩
      have := room_nodes h z
      omega
