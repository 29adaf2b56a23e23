/-! a set grows, on both sides -/
/-- the reference: the set at (c, j) takes x; else only 'more' may change -/
def HdM (τ τ' : Mm) (c j : Nat) (x : Int64) : Prop := (∀ k i, ¬ (k = 0 ∧ i = 22) → τ'.1 k i = τ.1 k i) ∧ τ'.2 c j = (τ.2 c j ||| x) ∧ (∀ k i, ¬ (k = c ∧ i = j) → τ'.2 k i = τ.2 k i) ∧ τ'.1 0 22 = if (τ.2 c j ||| x) = τ.2 c j then τ.1 0 22 else 1
def HdC (o : Nat) (σ σ' : Mm) (c j : Nat) (x : Int64) : Prop := (∀ k i, ¬ (k = o ∧ i = 7) → σ'.1 k i = σ.1 k i) ∧ σ'.2 c j = (σ.2 c j ||| x) ∧ (∀ k i, ¬ (k = c ∧ i = j) → σ'.2 k i = σ.2 k i) ∧ σ'.1 o 7 = if (σ.2 c j ||| x) = σ.2 c j then σ.1 o 7 else 1
theorem or_sub {a x : Int64} : (a ||| x) = a ↔ ∀ i, lb x i = true → lb a i = true := by
  constructor
  · intro h i hi
    rw [← h, lb_or, hi]; simp
  · intro h
    apply lb_ext
    intro i _
    rw [lb_or]
    cases hx : lb x i
    · simp
    · rw [h i hx]; simp
theorem and_not0 {a x : Int64} : (x &&& (a ^^^ (-1))) = 0 ↔ (a ||| x) = a := by
  rw [or_sub, leq0]
  constructor
  · intro h i hi
    by_cases h6 : i < 64
    · have := h i
      rw [lb_and, hi, lb_not h6] at this
      simpa using this
    · rw [lb_big (by omega)] at hi; cases hi
  · intro h i
    rw [lb_and]
    by_cases h6 : i < 64
    · rw [lb_not h6]
      cases hx : lb x i
      · simp
      · rw [h i hx]; simp
    · rw [lb_big (x := x) (by omega)]; simp
theorem or_new {a x : Int64} (h : ¬ (a ||| x) = a) : ∃ i, i < 64 ∧ lb x i = true ∧ lb a i = false := by
  refine Classical.byContradiction (fun hn => h (or_sub.mpr (fun i hi => ?_)))
  cases ha : lb a i
  · refine absurd ⟨i, ?_, hi, ha⟩ hn
    refine Nat.lt_of_not_le (fun z => ?_)
    rw [lb_big z] at hi; cases hi
  · rfl
theorem HdM_same {τ : Mm} {c j : Nat} {x : Int64} (h : (τ.2 c j ||| x) = τ.2 c j) : HdM τ τ c j x := ⟨fun _ _ _ => rfl, h.symm, fun _ _ _ => rfl, by rw [if_pos h]⟩
theorem HdC_same {o : Nat} {σ : Mm} {c j : Nat} {x : Int64} (h : (σ.2 c j ||| x) = σ.2 c j) : HdC o σ σ c j x := ⟨fun _ _ _ => rfl, h.symm, fun _ _ _ => rfl, by rw [if_pos h]⟩
theorem HdM_new {τ : Mm} {c j : Nat} {x : Int64} (h : ¬ (τ.2 c j ||| x) = τ.2 c j) : HdM τ (stI (stL τ c j (τ.2 c j ||| x)) 0 22 1) c j x := by
  refine ⟨fun k i hk => ?_, ?_, fun k i hk => ?_, ?_⟩
  · rw [stI_1, if_neg hk]; rfl
  · rw [stI_2, stL_2, if_pos ⟨rfl, rfl⟩]
  · rw [stI_2, stL_2, if_neg hk]
  · rw [stI_1, if_pos ⟨rfl, rfl⟩, if_neg h]
theorem HdC_new {o : Nat} {σ : Mm} {c j : Nat} {x : Int64} (h : ¬ (σ.2 c j ||| x) = σ.2 c j) : HdC o σ (stI (stL σ c j (σ.2 c j ||| x)) o 7 1) c j x := by
  refine ⟨fun k i hk => ?_, ?_, fun k i hk => ?_, ?_⟩
  · rw [stI_1, if_neg hk]; rfl
  · rw [stI_2, stL_2, if_pos ⟨rfl, rfl⟩]
  · rw [stI_2, stL_2, if_neg hk]
  · rw [stI_1, if_pos ⟨rfl, rfl⟩, if_neg h]
theorem e_addToVar {o : Nat} {σ : Mm} {n v : Nat} (hn : n < 80) (hv : v < 8) (x : Int64) : ∃ σ', f_X0_addToVar o n v x σ = some σ' ∧ HdC o σ σ' (o + 1) (8 * n + v) x := by
  unfold f_X0_addToVar
  have ht : Int.toNat ((n : Int) * 8 + v) = 8 * n + v := by omega
  rw [ck_pos (by omega), ck_pos (by omega), ht]
  by_cases h : (σ.2 (o + 1) (8 * n + v) ||| x) = σ.2 (o + 1) (8 * n + v)
  · rw [if_pos (and_not0.mpr h)]
    exact ⟨_, rfl, HdC_same h⟩
  · rw [if_neg (fun z => h (and_not0.mp z)), ck_pos (by omega), ck_pos (by omega), bind_s]
    exact ⟨_, rfl, HdC_new h⟩
theorem e_addInside {o : Nat} {σ : Mm} {n v : Nat} (hn : n < 60) (hv : v < 5) (x : Int64) : ∃ σ', f_X0_addInside o n v x σ = some σ' ∧ HdC o σ σ' (o + 2) (5 * n + v) x := by
  unfold f_X0_addInside
  have ht : Int.toNat ((n : Int) * 5 + v) = 5 * n + v := by omega
  rw [ck_pos (by omega), ck_pos (by omega), ht]
  by_cases h : (σ.2 (o + 2) (5 * n + v) ||| x) = σ.2 (o + 2) (5 * n + v)
  · rw [if_pos (and_not0.mpr h)]
    exact ⟨_, rfl, HdC_same h⟩
  · rw [if_neg (fun z => h (and_not0.mp z)), ck_pos (by omega), ck_pos (by omega), bind_s]
    exact ⟨_, rfl, HdC_new h⟩
theorem e_addToGlobal {o : Nat} {σ : Mm} {g : Nat} (hg : g < 4) (x : Int64) : ∃ σ', f_X0_addToGlobal o g x σ = some σ' ∧ HdC o σ σ' (o + 3) g x := by
  unfold f_X0_addToGlobal
  rw [ck_pos (by omega), Int.toNat_natCast]
  by_cases h : (σ.2 (o + 3) g ||| x) = σ.2 (o + 3) g
  · rw [if_pos (and_not0.mpr h)]
    exact ⟨_, rfl, HdC_same h⟩
  · rw [if_neg (fun z => h (and_not0.mp z)), ck_pos (by omega), ck_pos (by omega), bind_s]
    exact ⟨_, rfl, HdC_new h⟩
theorem st_same {τ : Mm} {c j : Nat} {x : Int64} (h : (τ.2 c j ||| x) = τ.2 c j) : stI (stL τ c j (τ.2 c j ||| x)) 0 22 (τ.1 0 22) = τ := by
  refine Prod.ext ?_ ?_
  · funext k i
    rw [stI_1]
    by_cases hk : k = 0 ∧ i = 22
    · rw [if_pos hk, hk.1, hk.2]
    · rw [if_neg hk]; rfl
  · funext k i
    rw [stI_2, stL_2]
    by_cases hk : k = c ∧ i = j
    · rw [if_pos hk, hk.1, hk.2, h]
    · rw [if_neg hk]
theorem g_grow {τ : Mm} {c j : Nat} {x : Int64} (hm : τ.1 0 22 = 0 ∨ τ.1 0 22 = 1) : ∃ τ', (if (stL τ c j (τ.2 c j ||| x)).1 0 22 = 0 then (if (stL τ c j (τ.2 c j ||| x)).2 c j = τ.2 c j then some (stI (stL τ c j (τ.2 c j ||| x)) 0 22 0) else some (stI (stL τ c j (τ.2 c j ||| x)) 0 22 1)) else some (stI (stL τ c j (τ.2 c j ||| x)) 0 22 1)) = some τ' ∧ HdM τ τ' c j x := by
  have e1 : (stL τ c j (τ.2 c j ||| x)).1 0 22 = τ.1 0 22 := rfl
  have e2 : (stL τ c j (τ.2 c j ||| x)).2 c j = (τ.2 c j ||| x) := by rw [stL_2, if_pos ⟨rfl, rfl⟩]
  rw [e1, e2]
  by_cases h : (τ.2 c j ||| x) = τ.2 c j
  · have hs := st_same h
    rcases hm with h0 | h1
    · rw [if_pos h0, if_pos h]
      rw [h0] at hs
      rw [hs]
      exact ⟨_, rfl, HdM_same h⟩
    · rw [if_neg (by omega)]
      rw [h1] at hs
      rw [hs]
      exact ⟨_, rfl, HdM_same h⟩
  · refine ⟨_, ?_, HdM_new h⟩
    rcases hm with h0 | h1
    · rw [if_pos h0, if_neg h]
    · rw [if_neg (by omega)]
theorem g_holds {τ : Mm} {n v : Nat} (hn : n < 80) (hv : v < 8) (x : Int64) (hm : τ.1 0 22 = 0 ∨ τ.1 0 22 = 1) : ∃ τ', f_X7_holds n v x τ = some τ' ∧ HdM τ τ' 16 (8 * n + v) x := by
  unfold f_X7_holds
  have ht : Int.toNat (8 * (n : Int) + v) = 8 * n + v := by omega
  rw [ck_pos (by omega), ck_pos (by omega), bind_s, ck_pos (by omega), ht]
  exact g_grow hm
theorem g_lies {τ : Mm} {n v : Nat} (hn : n < 60) (hv : v < 5) (x : Int64) (hm : τ.1 0 22 = 0 ∨ τ.1 0 22 = 1) : ∃ τ', f_X7_lies n v x τ = some τ' ∧ HdM τ τ' 19 (5 * n + v) x := by
  unfold f_X7_lies
  have ht : Int.toNat (5 * (n : Int) + v) = 5 * n + v := by omega
  rw [ck_pos (by omega), ck_pos (by omega), bind_s, ck_pos (by omega), ht]
  exact g_grow hm
/-! such a growth is one -/
theorem HdM_MF {τ τ' : Mm} {c j : Nat} {x : Int64} (hc : 13 ≤ c ∧ c ≤ 20) (h : HdM τ τ' c j x) : MF τ τ' := by
  refine ⟨fun k hk => ⟨?_, ?_⟩, fun j' a1 _ _ _ _ _ => h.1 0 j' (fun z => a1 z.2)⟩
  · funext i; exact h.1 k i (fun z => by omega)
  · funext i; exact h.2.2.1 k i (fun z => by omega)
theorem HdM_le {τ τ' : Mm} {c j : Nat} {x : Int64} (h : HdM τ τ' c j x) (k i : Nat) : ∀ b, lb (τ.2 k i) b = true → lb (τ'.2 k i) b = true := by
  intro b hb
  by_cases hk : k = c ∧ i = j
  · obtain ⟨rfl, rfl⟩ := hk
    rw [h.2.1, lb_or, hb]; simp
  · rw [h.2.2.1 k i hk]; exact hb
theorem HdM_Mono {τ τ' : Mm} {c j : Nat} {x : Int64} (hc : 13 ≤ c ∧ c ≤ 20) (h : HdM τ τ' c j x) : Mono τ τ' := by
  have e24 := h.1 0 24 (by decide)
  have e29 := h.1 0 29 (by decide)
  exact ⟨HdM_MF hc h, ⟨by omega, by omega⟩, fun n _ => ⟨h.1 13 n (fun z => by omega), h.1 14 n (fun z => by omega), h.1 15 n (fun z => by omega)⟩, fun n _ => ⟨h.1 17 n (fun z => by omega), h.1 18 n (fun z => by omega)⟩, fun j _ => HdM_le h 16 j, fun j _ => HdM_le h 19 j, fun j _ => HdM_le h 20 j⟩
theorem HdM_Up {τ τ' : Mm} {c j : Nat} {x : Int64} (h : HdM τ τ' c j x) (hj : (c = 16 ∧ (j : Int) < 8 * τ.1 0 24 ∧ τ.1 0 24 ≤ 80) ∨ (c = 19 ∧ (j : Int) < 5 * τ.1 0 29 ∧ τ.1 0 29 ≤ 60) ∨ (c = 20 ∧ j < 4)) : Up τ τ' := by
  have hc : 13 ≤ c ∧ c ≤ 20 := by omega
  refine ⟨HdM_Mono hc h, ?_⟩
  have e24 := h.1 0 24 (by decide)
  have e29 := h.1 0 29 (by decide)
  by_cases hs : (τ.2 c j ||| x) = τ.2 c j
  · left
    have all : ∀ k i, τ'.2 k i = τ.2 k i := fun k i => by
      by_cases hk : k = c ∧ i = j
      · obtain ⟨rfl, rfl⟩ := hk; rw [h.2.1, hs]
      · exact h.2.2.1 k i hk
    exact ⟨by rw [h.2.2.2, if_pos hs], e24, e29, fun _ _ => all _ _, fun _ _ => all _ _, fun _ _ => all _ _⟩
  · right
    refine ⟨by rw [h.2.2.2, if_neg hs], ?_⟩
    obtain ⟨b, b1, b2, b3⟩ := or_new hs
    have hlt : popN (τ.2 c j) 64 < popN (τ'.2 c j) 64 := popN_lt (HdM_le h c j) (by rw [h.2.1, lb_or, b2]; simp) b3 64 b1
    have lH : ∀ i, cH τ i ≤ cH τ' i := fun i => by
      unfold cH; rw [e24]
      have := popN_le (HdM_le h 16 i) 64
      split <;> omega
    have lI : ∀ i, cI τ i ≤ cI τ' i := fun i => by
      unfold cI; rw [e29]
      have := popN_le (HdM_le h 19 i) 64
      split <;> omega
    have lG : ∀ i, cG τ i ≤ cG τ' i := fun i => popN_le (HdM_le h 20 i) 64
    have a1 := sumN_le 640 (fun i _ => lH i)
    have a2 := sumN_le 300 (fun i _ => lI i)
    have a3 := sumN_le 4 (fun i _ => lG i)
    unfold cnt
    rw [e24, e29]
    rcases hj with ⟨rfl, q1, q2⟩ | ⟨rfl, q1, q2⟩ | ⟨rfl, q1⟩
    · have := sumN_lt (f := cH τ) (g := cH τ') (i := j) 640 (by omega) (fun i _ => lH i) (by unfold cH; rw [e24, if_pos q1, if_pos q1]; exact hlt)
      omega
    · have := sumN_lt (f := cI τ) (g := cI τ') (i := j) 300 (by omega) (fun i _ => lI i) (by unfold cI; rw [e29, if_pos q1, if_pos q1]; exact hlt)
      omega
    · have := sumN_lt (f := cG τ) (g := cG τ') (i := j) 4 (by omega) (fun i _ => lG i) hlt
      omega
theorem HdC_CF {o : Nat} {σ σ' : Mm} {c j : Nat} {x : Int64} (hc : o ≤ c ∧ c ≤ o + 13) (h : HdC o σ σ' c j x) : CF o σ σ' := by
  intro k hk
  constructor
  · funext i; exact h.1 k i (fun z => by omega)
  · funext i; exact h.2.2.1 k i (fun z => by omega)
/-- the relation is kept when both sides take the same set at the same place -/
theorem RF_hd {o : Nat} (ho : o = 15 ∨ o = 29) {σC σC' τ τ' : Mm} (h : RF o σC τ) {d c j : Nat} {x : Int64} (hx : ∀ i, lb x i = true → (i : Int) < τ.1 0 29) (hC : HdC o σC σC' (o + d) j x) (hM : HdM τ τ' c j x) (hdc : (d = 1 ∧ c = 16 ∧ ∃ n v : Nat, (n : Int) < τ.1 0 24 ∧ v < 8 ∧ j = 8 * n + v) ∨ (d = 2 ∧ c = 19 ∧ ∃ n v : Nat, (n : Int) < τ.1 0 29 ∧ v < 5 ∧ j = 5 * n + v) ∨ (d = 3 ∧ c = 20 ∧ j < 4)) : RF o σC' τ' := by
  obtain ⟨hP, ⟨⟨s1, s2, s3, s4, s5, s6⟩, s7, s8, s9, s10, s11⟩, hn, hxx, hh, hi, hg, hb, hu⟩ := h
  have hd : 1 ≤ d ∧ d ≤ 3 := by omega
  have hc : 13 ≤ c ∧ c ≤ 20 := by omega
  have cf := HdC_CF (o := o) ⟨by omega, by omega⟩ hC
  have mf := HdM_MF hc hM
  have m1 : ∀ k i, ¬ (k = 0 ∧ i = 22) → τ'.1 k i = τ.1 k i := hM.1
  have c1 : ∀ k i, ¬ (k = o ∧ i = 7) → σC'.1 k i = σC.1 k i := hC.1
  have e24 := m1 0 24 (by decide); have e29 := m1 0 29 (by decide); have e18 := m1 0 18 (by decide); have e19 := m1 0 19 (by decide); have e21 := m1 0 21 (by decide)
  have e13 : τ'.1 13 = τ.1 13 := by funext i; exact m1 13 i (by omega)
  have e14 : τ'.1 14 = τ.1 14 := by funext i; exact m1 14 i (by omega)
  have e15 : τ'.1 15 = τ.1 15 := by funext i; exact m1 15 i (by omega)
  have e17 : τ'.1 17 = τ.1 17 := by funext i; exact m1 17 i (by omega)
  have e18' : τ'.1 18 = τ.1 18 := by funext i; exact m1 18 i (by omega)
  have k9 : σC'.1 (o + 9) = σC.1 (o + 9) := by funext i; exact c1 _ i (by omega)
  have k10 : σC'.1 (o + 10) = σC.1 (o + 10) := by funext i; exact c1 _ i (by omega)
  have k11 : σC'.1 (o + 11) = σC.1 (o + 11) := by funext i; exact c1 _ i (by omega)
  have k12 : σC'.1 (o + 12) = σC.1 (o + 12) := by funext i; exact c1 _ i (by omega)
  have k13 : σC'.1 (o + 13) = σC.1 (o + 13) := by funext i; exact c1 _ i (by omega)
  have h15 : 15 ≤ o := by rcases ho with rfl | rfl <;> decide
  have p1 := (cf 1 (Or.inl (Nat.lt_of_lt_of_le (by decide) h15))).1; have p2 := (cf 2 (Or.inl (Nat.lt_of_lt_of_le (by decide) h15))).1; have p8 := (cf 8 (Or.inl (Nat.lt_of_lt_of_le (by decide) h15))).1; have p10 := (cf 10 (Or.inl (Nat.lt_of_lt_of_le (by decide) h15))).1; have p13 := (cf 13 (Or.inl (Nat.lt_of_lt_of_le (by decide) h15))).1
  have l4 : σC'.2 (o + 4) = σC.2 (o + 4) := by funext i; exact hC.2.2.1 _ i (by omega)
  have l0 : σC'.2 o = σC.2 o := by funext i; exact hC.2.2.1 _ i (by omega)
  have k8 := c1 o 8 (by omega)
  -- the two old sets are the same
  have hold : σC.2 (o + d) j = τ.2 c j := by
    rcases hdc with ⟨rfl, rfl, n, v, q1, q2, rfl⟩ | ⟨rfl, rfl, n, v, q1, q2, rfl⟩ | ⟨rfl, rfl, q1⟩
    · exact (hh n v q1 q2).1
    · exact (hi n v q1 q2).1
    · exact (hg j q1).1
  have hmore : σC'.1 o 7 = τ'.1 0 22 := by
    rw [hC.2.2.2, hM.2.2.2, hold, s5]
  have hnew : σC'.2 (o + d) j = τ'.2 c j := by rw [hC.2.1, hM.2.1, hold]
  have hbits : (∀ i, lb (τ.2 c j) i = true → (i : Int) < τ.1 0 29) → ∀ i, lb (τ'.2 c j) i = true → (i : Int) < τ.1 0 29 := fun hq i hb => by
    rw [hM.2.1, lb_or] at hb
    cases h1 : lb (τ.2 c j) i
    · rw [h1] at hb; exact hx i (by simpa using hb)
    · exact hq i h1
  have xse : ∀ i, xst τ' i = xst τ i := fun i => by unfold xst; rw [e17]
  have mce : ∀ i, mcl σC' i = mcl σC i := fun i => by unfold mcl; rw [p8, p10]
  have bwe : ∀ a b, blw σC' a b = blw σC a b := fun a b => by unfold blw; rw [p2]
  refine ⟨PR_frame ho hP cf mf, ?_, ?_, ?_, ?_, ?_, ?_, ?_, ?_⟩
  · unfold RFs
    rw [k9, k8, hmore, e24, e29, e18, e19, e21]
    refine ⟨⟨s1, s2, s3, s4, rfl, s6⟩, s7, s8, s9, s10, ?_⟩
    rw [hM.2.2.2]
    split
    · exact s11
    · exact Or.inr rfl
  · unfold RFn
    rw [e24, e13, e14, e15, k10, k11, p1, e19]
    exact hn
  · unfold RFx
    simp only [xse]
    rw [e29, e24, e17, e18', e13, k12, k13, p1, p8, p13]
    exact hxx
  · intro n v hn' hv'
    rw [e24] at hn'
    rw [e29]
    by_cases hq : d = 1 ∧ 8 * n + v = j
    · have hc16 : c = 16 := by omega
      subst hc16
      obtain ⟨rfl, rfl⟩ := hq
      exact ⟨hnew, hbits (hh n v hn' hv').2⟩
    · rw [hC.2.2.1 _ _ (by omega), hM.2.2.1 _ _ (by omega)]
      exact hh n v hn' hv'
  · intro n v hn' hv'
    rw [e29] at hn' ⊢
    by_cases hq : d = 2 ∧ 5 * n + v = j
    · have hc16 : c = 19 := by omega
      subst hc16
      obtain ⟨rfl, rfl⟩ := hq
      exact ⟨hnew, hbits (hi n v hn' hv').2⟩
    · rw [hC.2.2.1 _ _ (by omega), hM.2.2.1 _ _ (by omega)]
      exact hi n v hn' hv'
  · intro n hn'
    rw [e29]
    by_cases hq : d = 3 ∧ n = j
    · have hc16 : c = 20 := by omega
      subst hc16
      obtain ⟨rfl, rfl⟩ := hq
      exact ⟨hnew, hbits (hg n hn').2⟩
    · rw [hC.2.2.1 _ _ (by omega), hM.2.2.1 _ _ (by omega)]
      exact hg n hn'
  · unfold RFb
    simp only [xse, mce, bwe]
    rw [l4, l0, e29, p1, p8]
    exact hb
  · unfold RFu
    rw [e24, e29, e13, e14, e15, e17, e18']
    exact hu
