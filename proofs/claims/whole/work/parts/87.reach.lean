/-! which NODES a STEP leads to, as the class tells them -/
def exB (p : Nat → Bool) : Nat → Bool
  | 0 => false
  | n + 1 => exB p n || p n
theorem exB_iff (p : Nat → Bool) : ∀ n, exB p n = true ↔ ∃ y, y < n ∧ p y = true
  | 0 => by
    constructor
    · intro z; cases z
    · rintro ⟨y, z, -⟩; omega
  | n + 1 => by
    show (exB p n || p n) = true ↔ _
    rw [Bool.or_eq_true, exB_iff p n]
    constructor
    · rintro (⟨y, z1, z2⟩ | z)
      · exact ⟨y, by omega, z2⟩
      · exact ⟨n, by omega, z⟩
    · rintro ⟨y, z1, z2⟩
      by_cases e : y = n
      · subst e; exact Or.inr z2
      · exact Or.inl ⟨y, by omega, z2⟩
def LedY (σC τ : Mm) (k s t y : Nat) : Bool := lb (τ.2 16 (8 * k + Int.toNat (σC.1 10 s))) y && decide (mnt σC τ s y = τ.1 13 t) && decide (τ.1 14 t = ask1 τ s y) && decide (τ.1 15 t = ask2 τ k y)
def LedB (σC τ : Mm) (k s t : Nat) : Bool := if σC.1 8 s = 10 then decide (τ.1 13 t = σC.1 11 s) && decide (τ.1 14 t = call1 τ k s) && decide (τ.1 15 t = call2 τ k) else decide (σC.1 8 s = 9) && exB (LedY σC τ k s t) (Int.toNat (τ.1 0 29))
theorem LedY_iff {σC τ : Mm} {k s t y : Nat} : LedY σC τ k s t y = true ↔ lb (τ.2 16 (8 * k + Int.toNat (σC.1 10 s))) y = true ∧ mnt σC τ s y = τ.1 13 t ∧ τ.1 14 t = ask1 τ s y ∧ τ.1 15 t = ask2 τ k y := by
  unfold LedY
  simp only [Bool.and_eq_true, decide_eq_true_eq, and_assoc]
theorem LedB_iff {σC τ : Mm} {k s t : Nat} : LedB σC τ k s t = true ↔ Led σC τ k s t := by
  unfold LedB Led
  by_cases h10 : σC.1 8 s = 10
  · rw [if_pos h10]
    simp only [Bool.and_eq_true, decide_eq_true_eq, and_assoc]
    constructor
    · intro z; exact Or.inl ⟨h10, z⟩
    · rintro (z | z)
      · exact z.2
      · omega
  · rw [if_neg h10, Bool.and_eq_true, decide_eq_true_eq, exB_iff]
    constructor
    · rintro ⟨z1, y, z2, z3⟩
      exact Or.inr ⟨z1, y, by omega, LedY_iff.mp z3⟩
    · rintro (z | ⟨z1, y, z2, z3⟩)
      · omega
      · exact ⟨z1, y, by omega, LedY_iff.mpr z3⟩
theorem find_nodeC {o : Nat} (ho : o = 15 ∨ o = 29) {σC τ : Mm} (h : RF o σC τ) {m a b : Int} (ra : -1 ≤ a ∧ a ≤ 189) (rb : -1 ≤ b ∧ b ≤ 189) : (∃ n : Nat, (n : Int) < τ.1 0 24 ∧ τ.1 13 n = m ∧ τ.1 14 n = a ∧ τ.1 15 n = b ∧ f_X5_nodeWith o m (pk a b) σC = some (n : Int)) ∨ ((∀ n : Nat, (n : Int) < τ.1 0 24 → ¬ (τ.1 13 n = m ∧ τ.1 14 n = a ∧ τ.1 15 n = b)) ∧ f_X5_nodeWith o m (pk a b) σC = some (-1)) := by
  have hot : OT τ (stI (stI τ 0 34 a) 0 35 b) a b := by
    refine ⟨by simp [stI_1], by simp [stI_1], fun k j hk => ?_, rfl⟩
    rw [stI_1, if_neg (fun q => hk ⟨q.1, Or.inr q.2⟩), stI_1, if_neg (fun q => hk ⟨q.1, Or.inl q.2⟩)]
  have fr : ∀ k j, ¬ (k = 0 ∧ (j = 34 ∨ j = 35)) → (stI (stI τ 0 34 a) 0 35 b).1 k j = τ.1 k j := hot.2.2.1
  rcases find_node (OT_RF ho h hot) hot.1 hot.2.1 ra rb (m := m) with ⟨n, n1, n2, n3, n4, n5, -⟩ | ⟨hno, n5, -⟩
  · rw [fr 0 24 (by decide)] at n1
    rw [fr 13 n (by omega)] at n2
    rw [fr 14 n (by omega)] at n3
    rw [fr 15 n (by omega)] at n4
    exact Or.inl ⟨n, n1, n2, n3, n4, n5⟩
  · refine Or.inr ⟨fun n hn => ?_, n5⟩
    have := hno n (by rw [fr 0 24 (by decide)]; exact hn)
    rw [fr 13 n (by omega), fr 14 n (by omega), fr 15 n (by omega)] at this
    exact this
/-! the row of those that are reached -/
def rB (o : Nat) (σ : Mm) (t : Nat) : Bool := lb (σ.2 (o + 8) (t / 64)) (t % 64)
theorem shr6 : ∀ t : Nat, t < 80 → iShr (t : Int) 6 = ((t / 64 : Nat) : Int) ∧ iAnd (t : Int) 63 = ((t % 64 : Nat) : Int) := by decide +kernel
theorem e_isReached {o : Nat} {σ : Mm} {t : Nat} (ht : t < 80) : f_X0_isReached o t σ = some (b01 (rB o σ t = true)) := by
  obtain ⟨h1, h2⟩ := shr6 t ht
  unfold f_X0_isReached rB
  rw [h1, h2, ck_pos (by omega), Int.toNat_natCast]
  cases hb : lb (σ.2 (o + 8) (t / 64)) (t % 64)
  · rw [if_pos ((lbit0 _ (by omega)).mpr hb)]; rfl
  · rw [if_neg (fun z => by rw [(lbit0 _ (by omega)).mp z] at hb; cases hb)]; rfl
/-- only the rows beside the finding change -/
def CF8 (o : Nat) (σ σ' : Mm) : Prop := (∀ k, k ≠ o + 5 → k ≠ o + 6 → k ≠ o + 7 → σ'.1 k = σ.1 k) ∧ ∀ k, k ≠ o + 8 → σ'.2 k = σ.2 k
theorem CF8.rf {o : Nat} {σ : Mm} : CF8 o σ σ := ⟨fun _ _ _ _ => rfl, fun _ _ => rfl⟩
theorem CF8.tr {o : Nat} {a b c : Mm} (h1 : CF8 o a b) (h2 : CF8 o b c) : CF8 o a c := ⟨fun k q1 q2 q3 => (h2.1 k q1 q2 q3).trans (h1.1 k q1 q2 q3), fun k q => (h2.2 k q).trans (h1.2 k q)⟩
theorem CF8_CF {o : Nat} {σ σ' : Mm} (h : CF8 o σ σ') : CF o σ σ' := fun k hk => ⟨h.1 k (by omega) (by omega) (by omega), h.2 k (by omega)⟩
theorem RF_side {o : Nat} (ho : o = 15 ∨ o = 29) {σ σ' τ : Mm} (h : RF o σ τ) (hc : CF8 o σ σ') : RF o σ' τ := by
  have h15 : 15 ≤ o := by rcases ho with rfl | rfl <;> decide
  obtain ⟨hP, hs, hn, hxx, hh, hi, hg, hb, hu⟩ := h
  have c : ∀ k, k ≠ o + 5 → k ≠ o + 6 → k ≠ o + 7 → σ'.1 k = σ.1 k := hc.1
  have l : ∀ k, k ≠ o + 8 → σ'.2 k = σ.2 k := hc.2
  have mce : ∀ i, mcl σ' i = mcl σ i := fun i => by unfold mcl; rw [c 8 (by omega) (by omega) (by omega), c 10 (by omega) (by omega) (by omega)]
  have bwe : ∀ a b, blw σ' a b = blw σ a b := fun a b => by unfold blw; rw [c 2 (by omega) (by omega) (by omega)]
  have p1 := c 1 (by omega) (by omega) (by omega)
  have p8 := c 8 (by omega) (by omega) (by omega)
  have p13 := c 13 (by omega) (by omega) (by omega)
  refine ⟨PR_frame ho hP (CF8_CF hc) MF.rf, ?_, ?_, ?_, ?_, ?_, ?_, ?_, hu⟩
  · unfold RFs; rw [c (o + 9) (by omega) (by omega) (by omega), c o (by omega) (by omega) (by omega)]; exact hs
  · unfold RFn; rw [c (o + 10) (by omega) (by omega) (by omega), c (o + 11) (by omega) (by omega) (by omega), p1]; exact hn
  · unfold RFx; rw [c (o + 12) (by omega) (by omega) (by omega), c (o + 13) (by omega) (by omega) (by omega), p1, p8, p13]; exact hxx
  · unfold RFh; rw [l (o + 1) (by omega)]; exact hh
  · unfold RFi; rw [l (o + 2) (by omega)]; exact hi
  · unfold RFg; rw [l (o + 3) (by omega)]; exact hg
  · unfold RFb; simp only [mce, bwe]; rw [l (o + 4) (by omega), l o (by omega), p1, p8]; exact hb
theorem prog_side {o : Nat} (ho : o = 15 ∨ o = 29) {σ σ' : Mm} (hc : CF8 o σ σ') : ∀ k, 1 ≤ k → k ≤ 14 → σ'.1 k = σ.1 k := fun k _ _ => by
  have h15 : 15 ≤ o := by rcases ho with rfl | rfl <;> decide
  exact hc.1 k (by omega) (by omega) (by omega)
theorem e_noteReached {o : Nat} {σ : Mm} {t : Nat} (ht : t < 80) : ∃ σ', f_X0_noteReached o t σ = some σ' ∧ CF8 o σ σ' ∧ σ'.1 = σ.1 ∧ ∀ u, u < 80 → (rB o σ' u = true ↔ rB o σ u = true ∨ u = t) := by
  obtain ⟨h1, h2⟩ := shr6 t ht
  unfold f_X0_noteReached
  rw [if_neg (by omega), h1, h2, ck_pos (by omega), ck_pos (by omega), bind_s, Int.toNat_natCast]
  refine ⟨_, rfl, ⟨fun k _ _ _ => rfl, fun k hk => by funext i; rw [stL_2, if_neg (by omega)]⟩, rfl, fun u hu => ?_⟩
  unfold rB
  rw [stL_2]
  by_cases he : u / 64 = t / 64
  · rw [if_pos ⟨rfl, he⟩, lb_or, Bool.or_eq_true, lb_bit (by omega), he]
    constructor
    · rintro (z | z)
      · exact Or.inl z
      · exact Or.inr (by omega)
    · rintro (z | z)
      · exact Or.inl z
      · exact Or.inr (by omega)
  · rw [if_neg (by omega)]
    constructor
    · exact Or.inl
    · rintro (z | z)
      · exact z
      · subst z; exact absurd rfl he
/-- one look: the NODE that is found, if one is, comes to those that are reached -/
theorem note_one {o : Nat} (ho : o = 15 ∨ o = 29) {σC τ : Mm} (h : RF o σC τ) {m a b : Int} (ra : -1 ≤ a ∧ a ≤ 189) (rb : -1 ≤ b ∧ b ≤ 189) : ∃ r σ', f_X5_nodeWith o m (pk a b) σC = some r ∧ f_X0_noteReached o r σC = some σ' ∧ CF8 o σC σ' ∧ σ'.1 = σC.1 ∧ ∀ u : Nat, (u : Int) < τ.1 0 24 → (rB o σ' u = true ↔ rB o σC u = true ∨ (τ.1 13 u = m ∧ τ.1 14 u = a ∧ τ.1 15 u = b)) := by
  have s7 := h.2.1.2.1
  rcases find_nodeC ho h ra rb (m := m) with ⟨n, n1, n2, n3, n4, n5⟩ | ⟨hno, n5⟩
  · obtain ⟨σ', q1, q2, q3, q4⟩ := e_noteReached (o := o) (σ := σC) (t := n) (by omega)
    refine ⟨n, σ', n5, q1, q2, q3, fun u hu => ?_⟩
    rw [q4 u (by omega)]
    constructor
    · rintro (z | z)
      · exact Or.inl z
      · subst z; exact Or.inr ⟨n2, n3, n4⟩
    · rintro (z | ⟨z1, z2, z3⟩)
      · exact Or.inl z
      · exact Or.inr (h.2.2.2.2.2.2.2.2.1 u n hu n1 (by rw [z1, n2]) (by rw [z2, n3]) (by rw [z3, n4]))
  · refine ⟨-1, σC, n5, ?_, CF8.rf, rfl, fun u hu => ⟨Or.inl, fun z => ?_⟩⟩
    · unfold f_X0_noteReached
      rw [if_pos (by omega)]
    · rcases z with z | z
      · exact z
      · exact absurd z (hno u hu)
theorem reach_aux {o : Nat} (ho : o = 15 ∨ o = 29) {τ : Mm} {n s N : Nat} {bits : Int64} (hn : (n : Int) < τ.1 0 24) (hN : τ.1 0 29 = N) : ∀ (k f x : Nat) (σC : Mm), RF o σC τ → (s : Int) < σC.1 1 2 → σC.1 8 s = 9 → x + k = N → k < f → ∃ σ', f_X0_reach_76 o f n s bits x σC = some σ' ∧ CF8 o σC σ' ∧ σ'.1 = σC.1 ∧ ∀ u : Nat, (u : Int) < τ.1 0 24 → (rB o σ' u = true ↔ rB o σC u = true ∨ ∃ y, (x ≤ y ∧ y < N) ∧ lb bits y = true ∧ mnt σC τ s y = τ.1 13 u ∧ τ.1 14 u = ask1 τ s y ∧ τ.1 15 u = ask2 τ n y) := by
  intro k
  induction k with
  | zero =>
    intro f x σC h hs hk hx hf
    obtain ⟨⟨t1, t2, -⟩, s7, s8, -⟩ := h.2.1
    obtain ⟨f, rfl⟩ : ∃ g, f = g + 1 := ⟨f - 1, by omega⟩
    rw [f_X0_reach_76, if_pos (by omega)]
    refine ⟨σC, rfl, CF8.rf, rfl, fun u hu => ⟨Or.inl, fun z => ?_⟩⟩
    rcases z with z | ⟨y, z, -⟩
    · exact z
    · omega
  | succ k ih =>
    intro f x σC h hs hk hx hf
    obtain ⟨⟨t1, t2, -⟩, s7, s8, -⟩ := h.2.1
    obtain ⟨f, rfl⟩ : ∃ g, f = g + 1 := ⟨f - 1, by omega⟩
    have cc : (x : Int) + 1 = ((x + 1 : Nat) : Int) := by omega
    have hxn : (x : Int) < τ.1 0 29 := by omega
    rw [f_X0_reach_76, if_neg (by omega)]
    by_cases hr : lShr bits (x : Int) = 0
    · rw [if_pos hr]
      refine ⟨σC, rfl, CF8.rf, rfl, fun u hu => ⟨Or.inl, fun z => ?_⟩⟩
      rcases z with z | ⟨y, z1, z2, -⟩
      · exact z
      · rw [(lrest0 bits (by omega)).mp hr y z1.1] at z2; cases z2
    · rw [if_neg hr]
      have skip : (lb bits x = true → mnt σC τ s x < 0) → ∃ σ', f_X0_reach_76 o f n s bits ((x + 1 : Nat) : Int) σC = some σ' ∧ CF8 o σC σ' ∧ σ'.1 = σC.1 ∧ ∀ u : Nat, (u : Int) < τ.1 0 24 → (rB o σ' u = true ↔ rB o σC u = true ∨ ∃ y, (x ≤ y ∧ y < N) ∧ lb bits y = true ∧ mnt σC τ s y = τ.1 13 u ∧ τ.1 14 u = ask1 τ s y ∧ τ.1 15 u = ask2 τ n y) := fun hno => by
        obtain ⟨σ', r1, r2, r3, r4⟩ := ih f (x + 1) σC h hs hk (by omega) (by omega)
        refine ⟨σ', r1, r2, r3, fun u hu => ?_⟩
        rw [r4 u hu]
        constructor
        · rintro (z | ⟨y, z1, z2⟩)
          · exact Or.inl z
          · exact Or.inr ⟨y, by omega, z2⟩
        · rintro (z | ⟨y, z1, z2, z3, z4⟩)
          · exact Or.inl z
          · by_cases e : y = x
            · subst e
              have := hno z2
              obtain ⟨-, n3, -⟩ := h.2.2.1 u hu
              omega
            · exact Or.inr ⟨y, by omega, z2, z3, z4⟩
      by_cases hb : lb bits x = true
      · rw [if_neg (fun z => by rw [(lbit0 bits (by omega)).mp z] at hb; cases hb), e_methodAskedOf h hs hk hxn, bind_s]
        unfold f_X0_reach_119
        by_cases hm : mnt σC τ s x < 0
        · rw [if_pos hm, ck_pos (by omega), cc]
          exact skip (fun _ => hm)
        · rw [if_neg hm, e_ctxAsk h hn hxn hs, bind_s]
          obtain ⟨x1, x2, -⟩ := (ctx_rng h hn hs).2 x hxn
          obtain ⟨r, σ1, q1, q2, q3, q4, q5⟩ := note_one ho h x1 x2 (m := mnt σC τ s x)
          rw [q1, bind_s, q2, bind_s, ck_pos (by omega), cc]
          obtain ⟨σ', r1, r2, r3, r4⟩ := ih f (x + 1) σ1 (RF_side ho h q3) (by rw [q4]; exact hs) (by rw [q4]; exact hk) (by omega) (by omega)
          refine ⟨σ', r1, q3.tr r2, r3.trans q4, fun u hu => ?_⟩
          have em : ∀ y, mnt σ1 τ s y = mnt σC τ s y := fun y => by unfold mnt mcl; rw [q4]
          rw [r4 u hu, q5 u hu]
          simp only [em]
          constructor
          · rintro ((z | ⟨z1, z2, z3⟩) | ⟨y, z1, z2⟩)
            · exact Or.inl z
            · exact Or.inr ⟨x, by omega, hb, z1.symm, z2, z3⟩
            · exact Or.inr ⟨y, by omega, z2⟩
          · rintro (z | ⟨y, z1, z2, z3, z4, z5⟩)
            · exact Or.inl (Or.inl z)
            · by_cases e : y = x
              · subst e; exact Or.inl (Or.inr ⟨z3.symm, z4, z5⟩)
              · exact Or.inr ⟨y, by omega, z2, z3, z4, z5⟩
      · rw [if_pos ((lbit0 bits (by omega)).mpr (by simpa using hb))]
        unfold f_X0_reach_119
        rw [if_pos (by omega), ck_pos (by omega), cc]
        exact skip (fun z => absurd z hb)
theorem e_reach {o : Nat} (ho : o = 15 ∨ o = 29) {σC τ : Mm} (h : RF o σC τ) {n s : Nat} (hn : (n : Int) < τ.1 0 24) (hs : (s : Int) < σC.1 1 2) (hk : σC.1 8 s = 9 ∨ σC.1 8 s = 10) : ∃ σ', f_X0_reach o n s σC = some σ' ∧ CF8 o σC σ' ∧ σ'.1 = σC.1 ∧ ∀ u : Nat, (u : Int) < τ.1 0 24 → rB o σ' u = LedB σC τ n s u := by
  have h15 : 15 ≤ o := by rcases ho with rfl | rfl <;> decide
  obtain ⟨⟨t1, t2, -⟩, s7, s8, -⟩ := h.2.1
  have h12 := h.1.1.2.2.1
  have z8 : CF8 o σC (stL (stL σC (o + 8) 0 0) (o + 8) 1 0) := ⟨fun _ _ _ _ => rfl, fun k hk => by funext i; rw [stL_2, if_neg (by omega), stL_2, if_neg (by omega)]⟩
  have h0 := RF_side ho h z8
  have zb : ∀ u, u < 80 → rB o (stL (stL σC (o + 8) 0 0) (o + 8) 1 0) u = false := fun u hu => by
    unfold rB
    have : u / 64 = 0 ∨ u / 64 = 1 := by omega
    rcases this with e | e
    · rw [e, stL_2, if_neg (by omega), stL_2, if_pos ⟨rfl, rfl⟩, lb_0]
    · rw [e, stL_2, if_pos ⟨rfl, rfl⟩, lb_0]
  have e1 : ∀ k i, (stL (stL σC (o + 8) 0 0) (o + 8) 1 0).1 k i = σC.1 k i := fun _ _ => rfl
  have bb : ∀ (a b : Bool), (a = true ↔ b = true) → a = b := fun a b hab => by
    cases a <;> cases b
    · rfl
    · have := hab.mpr rfl; cases this
    · have := hab.mp rfl; cases this
    · rfl
  unfold f_X0_reach
  rw [ck_pos (by omega), ck_pos (by omega), ck_pos (by omega), Int.toNat_natCast, e1, e1, e1]
  by_cases h10 : σC.1 8 s = 10
  · obtain ⟨x1, x2, -⟩ := (ctx_rng h0 hn hs).1
    obtain ⟨r, σ', q1, q2, q3, q4, q5⟩ := note_one ho h0 x1 x2 (m := σC.1 11 s)
    rw [if_pos h10, ck_pos (by omega), e_ctxCall h0 hn hs, bind_s, q1, bind_s, q2, bind_s]
    refine ⟨σ', rfl, z8.tr q3, q4, fun u hu => bb _ _ ?_⟩
    rw [q5 u hu, zb u (by omega), LedB_iff]
    unfold Led
    constructor
    · rintro (z | z)
      · cases z
      · exact Or.inl ⟨h10, z⟩
    · rintro (z | z)
      · exact Or.inr z.2
      · omega
  · have hk9 : σC.1 8 s = 9 := by omega
    obtain ⟨-, -, -, -, o5, -⟩ := PR_okS h.1 hs
    have hb := o5 (by omega)
    obtain ⟨vb', hvb⟩ : ∃ x : Nat, σC.1 10 s = x := ⟨Int.toNat (σC.1 10 s), by omega⟩
    obtain ⟨d1, d2⟩ := h.2.2.2.2.1 n vb' hn (by omega)
    rw [if_neg h10, ck_pos (by omega), hvb, e_setOf (by omega) (by omega), bind_s]
    obtain ⟨σ', r1, r2, r3, r4⟩ := reach_aux ho (τ := τ) (n := n) (s := s) (N := Int.toNat (τ.1 0 29)) (bits := (stL (stL σC (o + 8) 0 0) (o + 8) 1 0).2 (o + 1) (8 * n + vb')) hn (by omega) (Int.toNat (τ.1 0 29)) 2000 0 (stL (stL σC (o + 8) 0 0) (o + 8) 1 0) h0 hs hk9 (by omega) (by omega)
    rw [show ((0 : Nat) : Int) = 0 from rfl] at r1
    have eb : (stL (stL σC (o + 8) 0 0) (o + 8) 1 0).2 (o + 1) (8 * n + vb') = τ.2 16 (8 * n + vb') := by
      rw [z8.2 _ (by omega)]; exact d1
    rw [r1]
    refine ⟨σ', rfl, z8.tr r2, r3, fun u hu => bb _ _ ?_⟩
    rw [r4 u hu, zb u (by omega), LedB_iff, eb]
    unfold Led
    rw [hvb, Int.toNat_natCast]
    constructor
    · rintro (z | ⟨y, z1, z2⟩)
      · cases z
      · exact Or.inr ⟨hk9, y, by omega, z2⟩
    · rintro (z | ⟨-, y, z1, z2⟩)
      · omega
      · exact Or.inr ⟨y, by omega, z2⟩
