/-! what the KINDS need -/
theorem e_setOf {o : Nat} {σ : Mm} {n v : Nat} (hn : n < 80) (hv : v < 8) : f_X0_setOf o n v σ = some (σ.2 (o + 1) (8 * n + v)) := by
  unfold f_X0_setOf
  rw [ck_pos (by omega), show Int.toNat ((n : Int) * 8 + v) = 8 * n + v by omega]
theorem e_insideOf {o : Nat} {σ : Mm} {n v : Nat} (hn : n < 60) (hv : v < 5) : f_X0_insideOf o n v σ = some (σ.2 (o + 2) (5 * n + v)) := by
  unfold f_X0_insideOf
  rw [ck_pos (by omega), show Int.toNat ((n : Int) * 5 + v) = 5 * n + v by omega]
theorem lb_bit {x : Nat} (hx : x < 64) (i : Nat) : lb (lShl 1 (x : Int)) i = true ↔ i = x := by
  by_cases h6 : i < 64
  · rw [lb_shl1 hx h6]; simp
  · rw [lb_big (by omega)]
    constructor
    · intro z; cases z
    · intro z; omega
def vb (τ : Mm) (n : Nat) (v : Int) : Int64 := if 0 ≤ v ∧ v ≤ 5 then τ.2 16 (8 * n + Int.toNat v) else 0
theorem g_goes {o : Nat} {σC τ : Mm} (h : RF o σC τ) {n s : Nat} (hn : (n : Int) < τ.1 0 24) (hs : (s : Int) < σC.1 1 2) : f_X7_goes n s τ = f_X7_goes_71 n s (σC.1 9 s) (σC.1 11 s) (vb τ n (σC.1 10 s)) (vb τ n (σC.1 9 s)) τ := by
  obtain ⟨hP, ⟨-, s7, -⟩, -⟩ := h
  obtain ⟨⟨-, -, r3, r4, r5, r6, -⟩, -⟩ := hP.2.2.2.2.2.1 s hs
  have h12 := hP.1.2.2.1
  have inner : ∀ bits : Int64, f_X7_goes_47 n s (σC.1 9 s) (σC.1 11 s) bits τ = f_X7_goes_71 n s (σC.1 9 s) (σC.1 11 s) bits (vb τ n (σC.1 9 s)) τ := fun bits => by
    unfold f_X7_goes_47 vb
    rw [g_isVar, bind_s]
    by_cases hv : 0 ≤ σC.1 9 s ∧ σC.1 9 s ≤ 5
    · rw [b01_t hv, if_neg (by omega), ck_pos (by omega), if_pos hv, show Int.toNat (8 * (n : Int) + σC.1 9 s) = 8 * n + Int.toNat (σC.1 9 s) by omega]
    · rw [b01_f hv, if_pos rfl, if_neg hv]
  unfold f_X7_goes
  rw [ck_pos (by omega), ck_pos (by omega), ck_pos (by omega), Int.toNat_natCast, r4, r5, r6, g_isVar, bind_s]
  rw [show vb τ n (σC.1 10 s) = if 0 ≤ σC.1 10 s ∧ σC.1 10 s ≤ 5 then τ.2 16 (8 * n + Int.toNat (σC.1 10 s)) else 0 from rfl]
  by_cases hv : 0 ≤ σC.1 10 s ∧ σC.1 10 s ≤ 5
  · rw [b01_t hv, if_neg (by omega), ck_pos (by omega), if_pos hv, inner, show Int.toNat (8 * (n : Int) + σC.1 10 s) = 8 * n + Int.toNat (σC.1 10 s) by omega]
  · rw [b01_f hv, if_pos rfl, if_neg hv, inner]
/-! those that lie below a CLASS -/
theorem g_below_aux {o : Nat} {σC τ : Mm} (h : RF o σC τ) {bits : Int64} {c : Nat} (hc : (c : Int) < σC.1 1 0) : ∀ (k f x : Nat) (acc : Int64), (x : Int) + k = τ.1 0 29 → k < f → ∃ r, f_X7_below_6 f bits c acc x τ = some r ∧ ∀ i, lb r i = true ↔ lb acc i = true ∨ ((x ≤ i ∧ (i : Int) < τ.1 0 29) ∧ lb bits i = true ∧ blw σC (mcl σC (xst τ i)) c = true) := by
  have s8 := h.2.1.2.2.1
  have hP := h.1
  have h10 := hP.1.1
  intro k
  induction k with
  | zero =>
    intro f x acc hx hf
    obtain ⟨f, rfl⟩ : ∃ g, f = g + 1 := ⟨f - 1, by omega⟩
    rw [f_X7_below_6, if_pos (by omega)]
    refine ⟨acc, rfl, fun i => ⟨Or.inl, fun z => ?_⟩⟩
    rcases z with z | z
    · exact z
    · omega
  | succ k ih =>
    intro f x acc hx hf
    obtain ⟨f, rfl⟩ : ∃ g, f = g + 1 := ⟨f - 1, by omega⟩
    have cc : (x : Int) + 1 = ((x + 1 : Nat) : Int) := by omega
    obtain ⟨-, x2, x3, -⟩ := h.2.2.2.1 x (by omega)
    have hxs : ((xst τ x : Nat) : Int) < σC.1 1 2 := by unfold xst; omega
    have hml := mcl_lt hP hxs x3
    have skip : ¬ (lb bits x = true ∧ blw σC (mcl σC (xst τ x)) c = true) → ∃ r, f_X7_below_6 f bits c acc ((x + 1 : Nat) : Int) τ = some r ∧ ∀ i, lb r i = true ↔ lb acc i = true ∨ ((x ≤ i ∧ (i : Int) < τ.1 0 29) ∧ lb bits i = true ∧ blw σC (mcl σC (xst τ i)) c = true) := fun hno => by
      obtain ⟨r, r1, r2⟩ := ih f (x + 1) acc (by omega) (by omega)
      refine ⟨r, r1, fun i => ?_⟩
      rw [r2]
      constructor
      · rintro (z | ⟨z1, z2⟩)
        · exact Or.inl z
        · exact Or.inr ⟨by omega, z2⟩
      · rintro (z | ⟨z1, z2⟩)
        · exact Or.inl z
        · by_cases e : i = x
          · subst e; exact absurd z2 hno
          · exact Or.inr ⟨by omega, z2⟩
    rw [f_X7_below_6, if_neg (by omega)]
    by_cases hb : lb bits x = true
    · rw [if_pos ((lbit1 bits (by omega)).mpr hb), g_classOf h (by omega), bind_s, g_isBelow hP.2.1 (by omega) hml (by omega), bind_s]
      by_cases hw : blw σC (mcl σC (xst τ x)) c = true
      · rw [b01_t hw, if_neg (by omega), ck_pos (by omega), cc]
        obtain ⟨r, r1, r2⟩ := ih f (x + 1) (acc ||| lShl 1 x) (by omega) (by omega)
        refine ⟨r, r1, fun i => ?_⟩
        rw [r2, lb_or, Bool.or_eq_true, lb_bit (by omega)]
        constructor
        · rintro ((z | z) | ⟨z1, z2⟩)
          · exact Or.inl z
          · subst z; exact Or.inr ⟨by omega, hb, hw⟩
          · exact Or.inr ⟨by omega, z2⟩
        · rintro (z | ⟨z1, z2⟩)
          · exact Or.inl (Or.inl z)
          · by_cases e : i = x
            · exact Or.inl (Or.inr e)
            · exact Or.inr ⟨by omega, z2⟩
      · rw [b01_f hw, if_pos rfl, ck_pos (by omega), cc]
        exact skip (fun z => hw z.2)
    · rw [if_neg (fun z => hb ((lbit1 bits (by omega)).mp z)), ck_pos (by omega), cc]
      exact skip (fun z => hb z.1)
theorem g_below {o : Nat} {σC τ : Mm} (h : RF o σC τ) {bits : Int64} (hb : ∀ i, lb bits i = true → (i : Int) < τ.1 0 29) {c : Nat} (hc : (c : Int) < σC.1 1 0) : f_X7_below bits c τ = some (bits &&& σC.2 (o + 4) c) := by
  have s8 := h.2.1.2.2.1
  unfold f_X7_below
  obtain ⟨r, r1, r2⟩ := g_below_aux h (bits := bits) hc (Int.toNat (τ.1 0 29)) 2000 0 0 (by omega) (by omega)
  rw [show ((0 : Nat) : Int) = 0 from rfl] at r1
  rw [r1]
  congr 1
  apply lb_ext
  intro i _
  rw [lb_and]
  have e := r2 i
  rw [lb_0] at e
  have b := h.2.2.2.2.2.2.2.1.1 c i hc
  cases h1 : lb bits i
  · cases h2 : lb r i
    · simp
    · rcases e.mp h2 with z | ⟨-, z, -⟩
      · cases z
      · rw [h1] at z; cases z
  · rw [Bool.true_and]
    cases h2 : lb (σC.2 (o + 4) c) i
    · cases h3 : lb r i
      · rfl
      · rcases e.mp h3 with z | ⟨z0, -, z⟩
        · cases z
        · rw [h2] at b; exact absurd (b.mpr ⟨z0.2, z⟩) (by simp)
    · obtain ⟨b1, b2⟩ := b.mp h2
      exact e.mpr (Or.inr ⟨⟨by omega, b1⟩, h1, b2⟩)
/-! all that lies inside some -/
theorem e_insideAny_aux {o : Nat} {σ : Mm} {N : Nat} (hN : σ.1 (o + 9) 3 = N) (h60 : N ≤ 60) {bits : Int64} {f' : Nat} (hf' : f' < 5) : ∀ (k f x : Nat) (acc : Int64), x + k = N → k < f → ∃ r, f_X0_insideAny_6 o f bits f' acc x σ = some r ∧ ∀ i, lb r i = true ↔ lb acc i = true ∨ ∃ y, (x ≤ y ∧ y < N) ∧ lb bits y = true ∧ lb (σ.2 (o + 2) (5 * y + f')) i = true := by
  intro k
  induction k with
  | zero =>
    intro f x acc hx hf
    obtain ⟨f, rfl⟩ : ∃ g, f = g + 1 := ⟨f - 1, by omega⟩
    rw [f_X0_insideAny_6, if_pos (by omega)]
    refine ⟨acc, rfl, fun i => ⟨Or.inl, fun z => ?_⟩⟩
    rcases z with z | ⟨y, z, -⟩
    · exact z
    · omega
  | succ k ih =>
    intro f x acc hx hf
    obtain ⟨f, rfl⟩ : ∃ g, f = g + 1 := ⟨f - 1, by omega⟩
    have cc : (x : Int) + 1 = ((x + 1 : Nat) : Int) := by omega
    rw [f_X0_insideAny_6, if_neg (by omega)]
    by_cases h0 : lShr bits x = 0
    · rw [if_pos h0]
      refine ⟨acc, rfl, fun i => ⟨Or.inl, fun z => ?_⟩⟩
      rcases z with z | ⟨y, z1, z2, -⟩
      · exact z
      · rw [(lrest0 bits (by omega)).mp h0 y z1.1] at z2; cases z2
    · rw [if_neg h0]
      by_cases hb : lb bits x = true
      · rw [if_neg (fun z => by rw [(lbit0 bits (by omega)).mp z] at hb; cases hb), e_insideOf (by omega) hf', bind_s, ck_pos (by omega), cc]
        obtain ⟨r, r1, r2⟩ := ih f (x + 1) (acc ||| σ.2 (o + 2) (5 * x + f')) (by omega) (by omega)
        refine ⟨r, r1, fun i => ?_⟩
        rw [r2, lb_or, Bool.or_eq_true]
        constructor
        · rintro ((z | z) | ⟨y, z1, z2⟩)
          · exact Or.inl z
          · exact Or.inr ⟨x, by omega, hb, z⟩
          · exact Or.inr ⟨y, by omega, z2⟩
        · rintro (z | ⟨y, z1, z2, z3⟩)
          · exact Or.inl (Or.inl z)
          · by_cases e : y = x
            · subst e; exact Or.inl (Or.inr z3)
            · exact Or.inr ⟨y, by omega, z2, z3⟩
      · rw [if_pos ((lbit0 bits (by omega)).mpr (by simpa using hb)), ck_pos (by omega), cc]
        obtain ⟨r, r1, r2⟩ := ih f (x + 1) acc (by omega) (by omega)
        refine ⟨r, r1, fun i => ?_⟩
        rw [r2]
        constructor
        · rintro (z | ⟨y, z1, z2⟩)
          · exact Or.inl z
          · exact Or.inr ⟨y, by omega, z2⟩
        · rintro (z | ⟨y, z1, z2, z3⟩)
          · exact Or.inl z
          · by_cases e : y = x
            · subst e; exact absurd z2 hb
            · exact Or.inr ⟨y, by omega, z2, z3⟩
/-- the reference's loop of LOAD and TAKE: it takes all that lies inside those that are right -/
theorem g_load_aux {o : Nat} {σC τ : Mm} (h : RF o σC τ) {n s v fl : Nat} (hn : n < 80) (hv : v < 8) (hs : (s : Int) < σC.1 1 2) (cv : Int) (hfl : fl = (if σC.1 8 s = 6 then 4 else Int.toNat cv)) (hcv : 0 ≤ cv ∧ cv < 8) (hfl5 : fl < 5) {bits : Int64} : ∀ (k f x : Nat) (τ1 : Mm), (∀ a i, ¬ (a = 0 ∧ i = 22) → τ1.1 a i = τ.1 a i) → (τ1.1 0 22 = 0 ∨ τ1.1 0 22 = 1) → τ1.2 19 = τ.2 19 → (x : Int) + k = τ.1 0 29 → k < f → ∃ τ' X, f_X7_goes_198 f n s v cv bits x τ1 = some τ' ∧ HdM τ1 τ' 16 (8 * n + v) X ∧ ∀ i, lb X i = true ↔ ∃ y : Nat, (x ≤ y ∧ (y : Int) < τ.1 0 29) ∧ lb bits y = true ∧ (σC.1 8 (xst τ y) = 1 ↔ σC.1 8 s = 6) ∧ lb (τ.2 19 (5 * y + fl)) i = true := by
  have s8 := h.2.1.2.2.1
  have hP := h.1
  have h12 := hP.1.2.2.1
  obtain ⟨⟨-, -, p8, -⟩, -⟩ := hP.2.2.2.2.2.1 s hs
  intro k
  induction k with
  | zero =>
    intro f x τ1 e1 m1 l1 hx hf
    obtain ⟨f, rfl⟩ : ∃ g, f = g + 1 := ⟨f - 1, by omega⟩
    rw [f_X7_goes_198, e1 0 29 (by decide), if_pos (by omega)]
    refine ⟨τ1, 0, rfl, HdM_same (by apply lb_ext; intro i _; rw [lb_or, lb_0]; simp), fun i => ?_⟩
    rw [lb_0]
    constructor
    · intro z; cases z
    · rintro ⟨y, z, -⟩; omega
  | succ k ih =>
    intro f x τ1 e1 m1 l1 hx hf
    obtain ⟨f, rfl⟩ : ∃ g, f = g + 1 := ⟨f - 1, by omega⟩
    have cc : (x : Int) + 1 = ((x + 1 : Nat) : Int) := by omega
    have skip : ¬ (lb bits x = true ∧ (σC.1 8 (xst τ x) = 1 ↔ σC.1 8 s = 6)) → ∃ τ' X, f_X7_goes_198 f n s v cv bits ((x + 1 : Nat) : Int) τ1 = some τ' ∧ HdM τ1 τ' 16 (8 * n + v) X ∧ ∀ i, lb X i = true ↔ ∃ y : Nat, (x ≤ y ∧ (y : Int) < τ.1 0 29) ∧ lb bits y = true ∧ (σC.1 8 (xst τ y) = 1 ↔ σC.1 8 s = 6) ∧ lb (τ.2 19 (5 * y + fl)) i = true := fun hno => by
      obtain ⟨τ', X, r1, r2, r3⟩ := ih f (x + 1) τ1 e1 m1 l1 (by omega) (by omega)
      refine ⟨τ', X, r1, r2, fun i => ?_⟩
      rw [r3]
      constructor
      · rintro ⟨y, z1, z2⟩; exact ⟨y, by omega, z2⟩
      · rintro ⟨y, z1, z2, z3, z4⟩
        by_cases e : y = x
        · subst e; exact absurd ⟨z2, z3⟩ hno
        · exact ⟨y, by omega, z2, z3, z4⟩
    have hrow : f_X7_isRow x τ1 = some (b01 (σC.1 8 (xst τ x) = 1)) := by
      rw [← g_isRow h (show (x : Int) < τ.1 0 29 by omega)]
      have a17 : τ1.1 17 = τ.1 17 := by funext i; exact e1 17 i (by omega)
      have a8 : τ1.1 8 = τ.1 8 := by funext i; exact e1 8 i (by omega)
      unfold f_X7_isRow
      rw [a17, a8]
    have take : (σC.1 8 (xst τ x) = 1 ↔ σC.1 8 s = 6) → lb bits x = true → ∃ τ' X, (f_X7_holds n v (τ1.2 19 (5 * x + fl)) τ1).bind (fun r4 => ck (inR ((x : Int) + 1)) (f_X7_goes_198 f n s v cv bits ((x : Int) + 1) r4)) = some τ' ∧ HdM τ1 τ' 16 (8 * n + v) X ∧ ∀ i, lb X i = true ↔ ∃ y : Nat, (x ≤ y ∧ (y : Int) < τ.1 0 29) ∧ lb bits y = true ∧ (σC.1 8 (xst τ y) = 1 ↔ σC.1 8 s = 6) ∧ lb (τ.2 19 (5 * y + fl)) i = true := fun hr hb => by
      obtain ⟨τ2, q1, q2⟩ := g_holds (τ := τ1) hn hv (τ1.2 19 (5 * x + fl)) m1
      rw [q1, bind_s, ck_pos (by omega), cc]
      obtain ⟨τ', X, r1, r2, r3⟩ := ih f (x + 1) τ2 (fun a i hk => (q2.1 a i hk).trans (e1 a i hk)) (by rw [q2.2.2.2]; split; exact m1; exact Or.inr rfl) (by rw [← l1]; funext i; exact q2.2.2.1 19 i (by omega)) (by omega) (by omega)
      refine ⟨τ', _, r1, HdM_tr q2 r2, fun i => ?_⟩
      rw [lb_or, Bool.or_eq_true, r3, l1]
      constructor
      · rintro (z | ⟨y, z1, z2⟩)
        · exact ⟨x, by omega, hb, hr, z⟩
        · exact ⟨y, by omega, z2⟩
      · rintro ⟨y, z1, z2, z3, z4⟩
        by_cases e : y = x
        · subst e; exact Or.inl z4
        · exact Or.inr ⟨y, by omega, z2, z3, z4⟩
    have a8 : τ1.1 8 s = σC.1 8 s := (e1 8 s (by omega)).trans p8
    rw [f_X7_goes_198, e1 0 29 (by decide), if_neg (by omega)]
    by_cases hb : lb bits x = true
    · rw [if_pos ((lbit1 bits (by omega)).mpr hb), hrow, bind_s, ck_pos (by omega), Int.toNat_natCast, a8]
      by_cases h6 : σC.1 8 s = 6
      · rw [if_pos h6]
        unfold f_X7_goes_241
        by_cases hr : σC.1 8 (xst τ x) = 1
        · rw [b01_t hr, if_pos rfl, ck_pos (by omega), Int.toNat_natCast, a8, if_pos h6, ck_pos (by omega)]
          rw [if_pos h6] at hfl
          have := take ⟨fun _ => h6, fun _ => hr⟩ hb
          rw [hfl] at this ⊢
          rw [show Int.toNat (5 * (x : Int) + 4) = 5 * x + 4 by omega]
          exact this
        · rw [b01_f hr, if_neg (by decide), ck_pos (by omega), cc]
          exact skip (fun z => hr (z.2.mpr h6))
      · rw [if_neg h6]
        unfold f_X7_goes_241
        by_cases hr : σC.1 8 (xst τ x) = 1
        · rw [b01_t hr, if_neg (by decide), ck_pos (by omega), cc]
          exact skip (fun z => h6 (z.2.mp hr))
        · rw [if_neg h6] at hfl
          rw [b01_f hr, if_pos rfl, ck_pos (by omega), Int.toNat_natCast, a8, if_neg h6, ck_pos (by omega)]
          have := take ⟨fun z => absurd z hr, fun z => absurd z h6⟩ hb
          rw [show Int.toNat (5 * (x : Int) + cv) = 5 * x + fl by omega]
          exact this
    · rw [if_neg (fun z => hb ((lbit1 bits (by omega)).mp z)), ck_pos (by omega), cc]
      exact skip (fun z => hb z.1)
/-- LOAD and TAKE, both sides -/
theorem load_sim {o : Nat} (ho : o = 15 ∨ o = 29) {σC τ : Mm} (h : RF o σC τ) {n s v fl : Nat} (hn : (n : Int) < τ.1 0 24) (hv : v < 8) (hs : (s : Int) < σC.1 1 2) (cv : Int) (hfl : fl = (if σC.1 8 s = 6 then 4 else Int.toNat cv)) (hcv : 0 ≤ cv ∧ cv < 8) (hfl5 : fl < 5) {bits bc : Int64} (hbc : ∀ i, lb bc i = true ↔ lb bits i = true ∧ (σC.1 8 (xst τ i) = 1 ↔ σC.1 8 s = 6)) : ∃ σC' τ', (f_X0_insideAny o bc fl σC).bind (fun r => f_X0_addToVar o n v r σC) = some σC' ∧ f_X7_goes_198 2000 n s v cv bits 0 τ = some τ' ∧ Gr o σC τ σC' τ' ∧ (τ'.1 0 22 = 0 → ∀ y : Nat, (y : Int) < τ.1 0 29 → lb bits y = true → (σC.1 8 (xst τ y) = 1 ↔ σC.1 8 s = 6) → ∀ i, lb (τ.2 19 (5 * y + fl)) i = true → lb (τ.2 16 (8 * n + v)) i = true) := by
  obtain ⟨⟨t1, t2, -⟩, s7, s8, s9, s10, s11⟩ := h.2.1
  obtain ⟨τ', X, m1, m2, m3⟩ := g_load_aux h (n := n) (v := v) (by omega) hv hs cv hfl hcv hfl5 (bits := bits) (Int.toNat (τ.1 0 29)) 2000 0 τ (fun _ _ _ => rfl) s11 rfl (by omega) (by omega)
  rw [show ((0 : Nat) : Int) = 0 from rfl] at m1
  obtain ⟨r, r1, r2⟩ := e_insideAny_aux (o := o) (σ := σC) (N := Int.toNat (τ.1 0 29)) (by omega) (by omega) (bits := bc) hfl5 (Int.toNat (τ.1 0 29)) 2000 0 0 (by omega) (by omega)
  rw [show ((0 : Nat) : Int) = 0 from rfl] at r1
  have erX : r = X := by
    apply lb_ext
    intro i _
    have hiff : lb r i = true ↔ lb X i = true := by
      rw [r2, m3, lb_0]
      constructor
      · rintro (z | ⟨y, z1, z2, z3⟩)
        · cases z
        · rw [(h.2.2.2.2.2.1 y fl (by omega) hfl5).1] at z3
          obtain ⟨w1, w2⟩ := (hbc y).mp z2
          exact ⟨y, by omega, w1, w2, z3⟩
      · rintro ⟨y, z1, z2, z3, z4⟩
        refine Or.inr ⟨y, by omega, (hbc y).mpr ⟨z2, z3⟩, ?_⟩
        rw [(h.2.2.2.2.2.1 y fl (by omega) hfl5).1]
        exact z4
    cases h1 : lb r i
    · cases h2 : lb X i
      · rfl
      · rw [hiff.mpr h2] at h1; cases h1
    · exact (hiff.mp h1).symm
  subst erX
  obtain ⟨σC', c1, c2⟩ := e_addToVar (o := o) (σ := σC) (n := n) (v := v) (by omega) hv r
  have hx : ∀ i, lb r i = true → (i : Int) < τ.1 0 29 := fun i hi => by
    obtain ⟨y, z1, z2, z3, z4⟩ := (m3 i).mp hi
    exact (h.2.2.2.2.2.1 y fl z1.2 hfl5).2 i z4
  refine ⟨σC', τ', ?_, m1, ⟨RF_hd ho h hx c2 m2 (Or.inl ⟨rfl, rfl, n, v, hn, hv, rfl⟩), HdM_Up m2 (Or.inl ⟨rfl, by omega, by omega⟩), m2.1, c2.1, HdC_CF (by omega) c2, ?_, ?_⟩, fun h0 y y1 y2 y3 i hi => HdM_sub m2 h0 i ((m3 i).mpr ⟨y, ⟨by omega, y1⟩, y2, y3, hi⟩)⟩
  · unfold f_X0_insideAny
    rw [r1, bind_s, c1]
  · funext i; exact c2.2.2.1 _ i (by omega)
  · funext i; exact c2.2.2.1 _ i (by omega)
