theorem NdM_MF {τ τ' : Mm} {n : Nat} {m a b : Int} (h : NdM τ τ' n m a b) : MF τ τ' := by
  obtain ⟨-, h2, -, h4⟩ := h
  exact ⟨fun k hk => ⟨by funext i; exact h2 k i (by omega), by funext i; exact h4 k i (by omega)⟩, fun j _ _ _ _ _ _ => h2 0 j (by omega)⟩
theorem NdC_CF {o : Nat} {σ σ' : Mm} {n : Nat} {m c : Int} (h : NdC o σ σ' n m c) : CF o σ σ' := by
  obtain ⟨-, h2, -, h4⟩ := h
  exact fun k hk => ⟨by funext i; exact h2 k i (by omega), by funext i; exact h4 k i (by omega)⟩
theorem NdM_Up {τ τ' : Mm} {n : Nat} {m a b : Int} (hn : τ.1 0 24 = n) (h : NdM τ τ' n m a b) : Up τ τ' := by
  have mf := NdM_MF h
  obtain ⟨⟨e24, e22, -⟩, h2, h3, h4⟩ := h
  have e29 := h2 0 29 (by omega)
  refine ⟨⟨mf, ⟨by omega, by omega⟩, fun i hi => ⟨h2 13 i (by omega), h2 14 i (by omega), h2 15 i (by omega)⟩, fun i hi => ⟨h2 17 i (by omega), h2 18 i (by omega)⟩, fun j hj i hi => ?_, fun j hj i hi => ?_, fun j hj i hi => ?_⟩, Or.inr ⟨e22, ?_⟩⟩
  · rw [h4 16 j (by omega)]; exact hi
  · rw [h4 19 j (by omega)]; exact hi
  · rw [h4 20 j (by omega)]; exact hi
  · have a1 : sumN (cH τ) 640 ≤ sumN (cH τ') 640 := sumN_le 640 (fun i _ => by
      unfold cH
      by_cases hi : (i : Int) < 8 * τ.1 0 24
      · rw [if_pos hi, if_pos (by omega), h4 16 i (by omega)]; exact Nat.le_refl _
      · rw [if_neg hi]; exact Nat.zero_le _)
    have a2 : sumN (cI τ') 300 = sumN (cI τ) 300 := sumN_eq 300 (fun i _ => by
      unfold cI
      rw [e29, h4 19 i (by omega)])
    have a3 : sumN (cG τ') 4 = sumN (cG τ) 4 := sumN_eq 4 (fun i _ => by
      unfold cG
      rw [h4 20 i (by omega)])
    unfold cnt
    rw [a2, a3, e29, e24, hn]
    omega
theorem RF_nd {o : Nat} (ho : o = 15 ∨ o = 29) {σC σC' τ τ' : Mm} (h : RF o σC τ) {n : Nat} {m a b : Int} (hn : τ.1 0 24 = n) (h80 : n < 80) (hm : 0 ≤ m ∧ m < σC.1 1 1) (ra : -1 ≤ a ∧ a ≤ 189) (rb : -1 ≤ b ∧ b ≤ 189) (da : τ.1 0 19 = 0 → a = -1) (db : τ.1 0 19 < 2 → b = -1) (hno : ∀ i : Nat, (i : Int) < τ.1 0 24 → ¬ (τ.1 13 i = m ∧ τ.1 14 i = a ∧ τ.1 15 i = b)) (hC : NdC o σC σC' n m (pk a b)) (hM : NdM τ τ' n m a b) : RF o σC' τ' := by
  have cf := NdC_CF hC
  have mf := NdM_MF hM
  obtain ⟨hP, ⟨⟨s1, s2, s3, s4, s5, s6⟩, s7, s8, s9, s10, s11⟩, hnn, hxx, hh, hi, hg, hb, hu⟩ := h
  obtain ⟨⟨c1, c2, c3, c4⟩, c5, c6, c7⟩ := hC
  obtain ⟨⟨m1, m2, m3, m4, m5⟩, m6, m7, m8⟩ := hM
  have h15 : 15 ≤ o := by rcases ho with rfl | rfl <;> decide
  have e29 := m6 0 29 (by omega); have e18 := m6 0 18 (by omega); have e19 := m6 0 19 (by omega); have e21 := m6 0 21 (by omega)
  have e17 : τ'.1 17 = τ.1 17 := by funext i; exact m6 17 i (by omega)
  have e18' : τ'.1 18 = τ.1 18 := by funext i; exact m6 18 i (by omega)
  have k12 : σC'.1 (o + 12) = σC.1 (o + 12) := by funext i; exact c5 _ i (by omega)
  have k13 : σC'.1 (o + 13) = σC.1 (o + 13) := by funext i; exact c5 _ i (by omega)
  have p1 := (cf 1 (Or.inl (Nat.lt_of_lt_of_le (by decide) h15))).1; have p2 := (cf 2 (Or.inl (Nat.lt_of_lt_of_le (by decide) h15))).1; have p8 := (cf 8 (Or.inl (Nat.lt_of_lt_of_le (by decide) h15))).1; have p10 := (cf 10 (Or.inl (Nat.lt_of_lt_of_le (by decide) h15))).1; have p13 := (cf 13 (Or.inl (Nat.lt_of_lt_of_le (by decide) h15))).1
  have l4 : σC'.2 (o + 4) = σC.2 (o + 4) := by funext i; exact c7 _ i (by omega)
  have l0 : σC'.2 o = σC.2 o := by funext i; exact c7 _ i (by omega)
  have l2 : σC'.2 (o + 2) = σC.2 (o + 2) := by funext i; exact c7 _ i (by omega)
  have l3 : σC'.2 (o + 3) = σC.2 (o + 3) := by funext i; exact c7 _ i (by omega)
  have q19 : τ'.2 19 = τ.2 19 := by funext i; exact m8 _ i (by omega)
  have q20 : τ'.2 20 = τ.2 20 := by funext i; exact m8 _ i (by omega)
  have k0 := c5 (o + 9) 0 (by omega); have k1 := c5 (o + 9) 1 (by omega); have k3 := c5 (o + 9) 3 (by omega); have k8 := c5 o 8 (by omega)
  have xse : ∀ i, xst τ' i = xst τ i := fun i => by unfold xst; rw [e17]
  have mce : ∀ i, mcl σC' i = mcl σC i := fun i => by unfold mcl; rw [p8, p10]
  have bwe : ∀ a b, blw σC' a b = blw σC a b := fun a b => by unfold blw; rw [p2]
  refine ⟨PR_frame ho hP cf mf, ?_, ?_, ?_, ?_, ?_, ?_, ?_, ?_⟩
  · unfold RFs
    rw [c1, c2, k0, k1, k3, k8, m1, m2, e29, e18, e19, e21]
    exact ⟨⟨rfl, s2, s3, s4, rfl, s6⟩, by omega, s8, s9, s10, Or.inr rfl⟩
  · intro i hi'
    rw [e19, p1]
    by_cases hin : i = n
    · subst hin
      rw [c3, c4, m3, m4, m5]
      exact ⟨⟨rfl, rfl⟩, hm, ra, rb, da, db⟩
    · rw [c5 (o + 10) i (by omega), c5 (o + 11) i (by omega), m6 13 i (by omega), m6 14 i (by omega), m6 15 i (by omega)]
      exact hnn i (by omega)
  · intro x hx
    rw [e29] at hx
    obtain ⟨x1, x2, x3, x4, x5⟩ := hxx x hx
    rw [xse, k12, k13, e17, e18', p1, p8, p13, m6 13 _ (by omega)]
    exact ⟨x1, x2, x3, by omega, x5⟩
  · intro i v hi' hv
    rw [e29]
    by_cases hin : i = n
    · subst hin
      rw [c6 v hv, m7 v hv]
      exact ⟨rfl, fun j hj => by rw [lb_0] at hj; cases hj⟩
    · rw [c7 _ _ (by omega), m8 _ _ (by omega)]
      exact hh i v (by omega) hv
  · unfold RFi; rw [e29, l2, q19]; exact hi
  · unfold RFg; rw [e29, l3, q20]; exact hg
  · unfold RFb; simp only [xse, mce, bwe]; rw [l4, l0, e29, p1, p8]; exact hb
  · refine ⟨fun i j hi' hj' e1 e2 e3 => ?_, ?_⟩
    · by_cases hin : i = n <;> by_cases hjn : j = n
      · omega
      · subst hin
        rw [m3, m6 13 j (by omega)] at e1
        rw [m4, m6 14 j (by omega)] at e2
        rw [m5, m6 15 j (by omega)] at e3
        exact absurd ⟨e1.symm, e2.symm, e3.symm⟩ (hno j (by omega))
      · subst hjn
        rw [m3, m6 13 i (by omega)] at e1
        rw [m4, m6 14 i (by omega)] at e2
        rw [m5, m6 15 i (by omega)] at e3
        exact absurd ⟨e1, e2, e3⟩ (hno i (by omega))
      · rw [m6 13 i (by omega), m6 13 j (by omega)] at e1
        rw [m6 14 i (by omega), m6 14 j (by omega)] at e2
        rw [m6 15 i (by omega), m6 15 j (by omega)] at e3
        exact hu.1 i j (by omega) (by omega) e1 e2 e3
    · rw [e29, e17, e18']; exact hu.2
/-! at DEPTH 0 there is always room -/
def cntP (p : Nat → Bool) : Nat → Nat
  | 0 => 0
  | n + 1 => cntP p n + if p n then 1 else 0
theorem pig (p : Nat → Bool) : ∀ (S N : Nat) (f : Nat → Nat), (∀ x, x < N → f x < S ∧ p (f x) = true) → (∀ x y, x < N → y < N → f x = f y → x = y) → N ≤ cntP p S := by
  intro S
  induction S with
  | zero =>
    intro N f h _
    refine Nat.le_of_not_lt (fun hN => ?_)
    have := (h 0 (by omega)).1
    omega
  | succ S ih =>
    intro N f h hi
    show N ≤ cntP p S + _
    by_cases hx : ∃ x, x < N ∧ f x = S
    · obtain ⟨x0, q1, q2⟩ := hx
      have hp := (h x0 q1).2
      rw [q2] at hp
      rw [if_pos hp]
      have := ih (N - 1) (fun x => if x = x0 then f (N - 1) else f x) (fun x hx => by
        show (if x = x0 then f (N - 1) else f x) < S ∧ p (if x = x0 then f (N - 1) else f x) = true
        by_cases e : x = x0
        · rw [if_pos e]
          obtain ⟨w1, w2⟩ := h (N - 1) (by omega)
          refine ⟨Nat.lt_of_le_of_ne (by omega) (fun z => ?_), w2⟩
          have := hi (N - 1) x0 (by omega) q1 (by omega)
          omega
        · rw [if_neg e]
          obtain ⟨w1, w2⟩ := h x (by omega)
          refine ⟨Nat.lt_of_le_of_ne (by omega) (fun z => ?_), w2⟩
          have := hi x x0 (by omega) q1 (by omega)
          omega) (fun x y hx hy => by
        show (if x = x0 then f (N - 1) else f x) = (if y = x0 then f (N - 1) else f y) → x = y
        by_cases e1 : x = x0 <;> by_cases e2 : y = x0
        · intro _; omega
        · rw [if_pos e1, if_neg e2]; intro z; have := hi (N - 1) y (by omega) (by omega) z; omega
        · rw [if_neg e1, if_pos e2]; intro z; have := hi x (N - 1) (by omega) (by omega) z; omega
        · rw [if_neg e1, if_neg e2]; exact hi x y (by omega) (by omega))
      omega
    · have := ih N f (fun x hx' => by
        obtain ⟨w1, w2⟩ := h x hx'
        exact ⟨Nat.lt_of_le_of_ne (by omega) (fun z => hx ⟨x, hx', z⟩), w2⟩) hi
      omega
theorem cntP_le (p : Nat → Bool) : ∀ n, cntP p n ≤ n
  | 0 => Nat.le_refl _
  | n + 1 => by
    have := cntP_le p n
    show cntP p n + _ ≤ n + 1
    split <;> omega
theorem cntK_P (f : Nat → Int) : ∀ n, cntK f n = (cntP (fun i => decide (f i ≤ 1)) n : Nat)
  | 0 => rfl
  | n + 1 => by
    show cntK f n + _ = ((cntP (fun i => decide (f i ≤ 1)) n + _ : Nat) : Int)
    rw [cntK_P f n]
    by_cases h : f n ≤ 1
    · rw [if_pos h, if_pos (decide_eq_true h)]; omega
    · rw [if_neg h, if_neg (by simpa using h)]; omega
theorem room_nodes {o : Nat} {σC τ : Mm} (h : RF o σC τ) (hd : τ.1 0 19 = 0) : τ.1 0 24 ≤ 12 := by
  obtain ⟨hP, ⟨-, s7, -⟩, hnn, -, -, -, -, -, hu⟩ := h
  have hm := hP.1.2.1
  have := pig (fun _ => true) 12 (Int.toNat (τ.1 0 24)) (fun n => Int.toNat (τ.1 13 n)) (fun n hn => by
    obtain ⟨-, q, -⟩ := hnn n (by omega)
    exact ⟨by omega, rfl⟩) (fun n n' hn hn' e => by
    obtain ⟨-, q, -, -, q4, q5⟩ := hnn n (by omega)
    obtain ⟨-, r, -, -, r4, r5⟩ := hnn n' (by omega)
    have e' : Int.toNat (τ.1 13 n) = Int.toNat (τ.1 13 n') := e
    refine hu.1 n n' (by omega) (by omega) (by omega) ?_ ?_
    · rw [q4 hd, r4 hd]
    · rw [q5 (by omega), r5 (by omega)])
  have := cntP_le (fun _ => true) 12
  omega
theorem room_names {o : Nat} {σC τ : Mm} (h : RF o σC τ) (hd : τ.1 0 19 = 0) : τ.1 0 29 ≤ 55 := by
  obtain ⟨hP, ⟨-, s7, s8, -⟩, hnn, hxx, -, -, -, -, hu⟩ := h
  have hs := hP.1.2.2.1
  have h7 : σC.1 1 3 = cntK (σC.1 8) (Int.toNat (σC.1 1 2)) := hP.2.2.2.2.2.2
  have h13 := hP.1.2.2.2.1
  rw [cntK_P] at h7
  have := pig (fun i => decide (σC.1 8 i ≤ 1)) (Int.toNat (σC.1 1 2)) (Int.toNat (τ.1 0 29)) (fun x => xst τ x) (fun x hx => by
    obtain ⟨-, x2, x3, -⟩ := hxx x (by omega)
    refine ⟨by unfold xst; omega, decide_eq_true x3⟩) (fun x y hx hy e => by
    obtain ⟨-, x2, x3, x4, x5⟩ := hxx x (by omega)
    obtain ⟨-, y2, y3, y4, y5⟩ := hxx y (by omega)
    have e' : xst τ x = xst τ y := e
    have e17 : τ.1 17 x = τ.1 17 y := by unfold xst at e'; omega
    rw [e'] at x5
    obtain ⟨-, q, -, -, q4, q5⟩ := hnn (Int.toNat (τ.1 18 x)) (by omega)
    obtain ⟨-, r, -, -, r4, r5⟩ := hnn (Int.toNat (τ.1 18 y)) (by omega)
    have := hu.1 (Int.toNat (τ.1 18 x)) (Int.toNat (τ.1 18 y)) (by omega) (by omega) (x5.symm.trans y5) (by rw [q4 hd, r4 hd]) (by rw [q5 (by omega), r5 (by omega)])
    exact hu.2 x y (by omega) (by omega) e17 (by omega))
  omega
