/-! a search from its beginning -/
theorem e_fill6 {q N : Nat} (hN : N ≤ 1000) : ∀ (k f i : Nat) (σ : Mm), i + k = N → k < f → f_J7_fill_d0a16_6 N q f 0 i N σ = some (zL σ q i N) := by
  intro k
  induction k with
  | zero =>
    intro f i σ hi hf
    obtain ⟨f, rfl⟩ : ∃ g, f = g + 1 := ⟨f - 1, by omega⟩
    obtain rfl : i = N := by omega
    rw [f_J7_fill_d0a16_6, if_pos (by omega), zL_0]
  | succ k ih =>
    intro f i σ hi hf
    obtain ⟨f, rfl⟩ : ∃ g, f = g + 1 := ⟨f - 1, by omega⟩
    rw [f_J7_fill_d0a16_6, if_neg (by omega), ck_pos (by omega), ck_pos (by omega), Int.toNat_natCast, show (i : Int) + 1 = ((i + 1 : Nat) : Int) by omega, ih f (i + 1) _ (by omega) (by omega), zL_st (by omega)]
theorem e_fill {q N : Nat} (hN : N ≤ 1000) (σ : Mm) : f_J7_fill_d0a16 N q 0 σ = some (zL σ q 0 N) := by
  unfold f_J7_fill_d0a16
  exact e_fill6 hN N 2000 0 σ (by omega) (by omega)
theorem g_finds22 {x : Option Mm} : ∀ (k f i : Nat) (σ : Mm), i + k = 4 → k < f → (f_X7_newNode ((stI (stI (zL σ 20 i 4) 0 34 (-1)) 0 35 (-1)).1 0 17) (stI (stI (zL σ 20 i 4) 0 34 (-1)) 0 35 (-1))).bind (fun r26 => f_X7_finds_64 1000002 (stI r26.2 0 22 1)) = x → f_X7_finds_22 f i σ = x := by
  intro k
  induction k with
  | zero =>
    intro f i σ hi hf hx
    obtain ⟨f, rfl⟩ : ∃ g, f = g + 1 := ⟨f - 1, by omega⟩
    obtain rfl : i = 4 := by omega
    rw [f_X7_finds_22, if_pos (by omega), ← hx, zL_0]
  | succ k ih =>
    intro f i σ hi hf hx
    obtain ⟨f, rfl⟩ : ∃ g, f = g + 1 := ⟨f - 1, by omega⟩
    rw [f_X7_finds_22, if_neg (by omega), ck_pos (by omega), ck_pos (by omega), Int.toNat_natCast, show (i : Int) + 1 = ((i + 1 : Nat) : Int) by omega]
    exact ih f (i + 1) _ (by omega) (by omega) (by rw [zL_st (by omega)]; exact hx)
theorem RF_start {o : Nat} {σ0 τ0 : Mm} (hP : PR σ0 τ0) (c2 : σ0.1 (o + 9) 2 = 0) (c3 : σ0.1 (o + 9) 3 = 0) (c0 : σ0.1 (o + 9) 0 = τ0.1 0 18) (c1 : σ0.1 (o + 9) 1 = τ0.1 0 19) (c7 : σ0.1 o 7 = 0) (c8 : σ0.1 o 8 = 0) (m22 : τ0.1 0 22 = 0) (m21 : τ0.1 0 21 = 0) (m24 : τ0.1 0 24 = 0) (m29 : τ0.1 0 29 = 0) (m18 : 0 ≤ τ0.1 0 18 ∧ τ0.1 0 18 ≤ 2) (m19 : 0 ≤ τ0.1 0 19 ∧ τ0.1 0 19 ≤ 2) (g1 : ∀ i, i < 4 → σ0.2 (o + 3) i = 0) (g2 : ∀ i, i < 4 → τ0.2 20 i = 0) (b1 : ∀ c, c < 10 → σ0.2 (o + 4) c = 0) (b2 : σ0.2 o 6 = 0) : RF o σ0 τ0 := by
  have h10 := hP.1.1
  refine ⟨hP, ⟨⟨by omega, by omega, c0, c1, by omega, by omega⟩, by omega, by omega, m18, m19, Or.inl m22⟩, fun n hn => by omega, fun x hx => by omega, fun n v hn => by omega, fun x f hx => by omega, fun g hg => ?_, ⟨fun c i hc => ?_, fun i => ?_⟩, fun n n' hn => by omega, fun x x' hx => by omega⟩
  · rw [g1 g hg, g2 g hg]
    exact ⟨rfl, fun i hi => by rw [lb_0] at hi; cases hi⟩
  · rw [b1 c (by omega), lb_0, m29]
    constructor
    · intro z; cases z
    · intro z; omega
  · rw [b2, lb_0, m29]
    constructor
    · intro z; cases z
    · intro z; omega
theorem st_id {σ : Mm} {k j : Nat} {v : Int} (h : σ.1 k j = v) : stI σ k j v = σ := by
  refine Prod.ext ?_ rfl
  funext a b
  rw [stI_1]
  split
  · next hz => rw [hz.1, hz.2, h]
  · rfl
theorem attempt_sim {o : Nat} (ho : o = 15 ∨ o = 29) {σC τ : Mm} (hP : PR σC τ) {start mode depth : Int} (hm : τ.1 0 18 = mode) (hd : τ.1 0 19 = depth) (hst : τ.1 0 17 = start) (rm : 0 ≤ mode ∧ mode ≤ 2) (rd : 0 ≤ depth ∧ depth ≤ 2) (rs : 0 ≤ start ∧ start < σC.1 1 1) : ∃ σ1 τ1, f_X0_attempt o start mode depth σC = some σ1 ∧ f_X7_finds τ = some τ1 ∧ CF o σC σ1 ∧ MF2 τ τ1 ∧ ((FdEnd o σ1 τ1 ∧ Root τ1 start) ∨ (depth ≠ 0 ∧ σ1.1 (o + 9) 4 = 1 ∧ τ1.1 0 23 = 1)) := by
  have h15 : 15 ≤ o := by rcases ho with rfl | rfl <;> decide
  -- the class, before its first NODE
  obtain ⟨σ0, hσ0⟩ : ∃ σ0, σ0 = stI (stL (zL (zL (stI (stI (stI (stI (stI σC (o + 9) 0 mode) (o + 9) 1 depth) (o + 9) 2 0) (o + 9) 3 0) (o + 9) 4 0) (o + 3) 0 4) (o + 4) 0 10) o 6 0) o 8 0 := ⟨_, rfl⟩
  have eC : f_X0_attempt o start mode depth σC = (f_X0_nodeFor o start 0 σ0).bind (fun r34 => f_X0_attempt_47 o 1000002 (stI r34.2 o 7 1)) := by
    unfold f_X0_attempt f_X5_clear
    rw [bind_s, bind_s, e_fill (by omega), bind_s, e_fill (by omega), bind_s, ← hσ0]
  have i1 : ∀ k i, ¬ ((k = o + 9 ∧ i ≤ 4) ∨ (k = o ∧ i = 8)) → σ0.1 k i = σC.1 k i := fun k i hk => by
    rw [hσ0, stI_1, if_neg (by omega)]
    show (stI (stI (stI (stI (stI σC (o + 9) 0 mode) (o + 9) 1 depth) (o + 9) 2 0) (o + 9) 3 0) (o + 9) 4 0).1 k i = _
    rw [stI_1, if_neg (by omega), stI_1, if_neg (by omega), stI_1, if_neg (by omega), stI_1, if_neg (by omega), stI_1, if_neg (by omega)]
  have i9 : ∀ i, σ0.1 (o + 9) i = (stI (stI (stI (stI (stI σC (o + 9) 0 mode) (o + 9) 1 depth) (o + 9) 2 0) (o + 9) 3 0) (o + 9) 4 0).1 (o + 9) i := fun i => by
    rw [hσ0, stI_1, if_neg (by omega)]; rfl
  have j0 : σ0.1 (o + 9) 0 = mode := by rw [i9, stI_1, if_neg (by omega), stI_1, if_neg (by omega), stI_1, if_neg (by omega), stI_1, if_neg (by omega), stI_1, if_pos ⟨rfl, rfl⟩]
  have j1 : σ0.1 (o + 9) 1 = depth := by rw [i9, stI_1, if_neg (by omega), stI_1, if_neg (by omega), stI_1, if_neg (by omega), stI_1, if_pos ⟨rfl, rfl⟩]
  have j2 : σ0.1 (o + 9) 2 = 0 := by rw [i9, stI_1, if_neg (by omega), stI_1, if_neg (by omega), stI_1, if_pos ⟨rfl, rfl⟩]
  have j3 : σ0.1 (o + 9) 3 = 0 := by rw [i9, stI_1, if_neg (by omega), stI_1, if_pos ⟨rfl, rfl⟩]
  have j4 : σ0.1 (o + 9) 4 = 0 := by rw [i9, stI_1, if_pos ⟨rfl, rfl⟩]
  have j8 : σ0.1 o 8 = 0 := by rw [hσ0, stI_1, if_pos ⟨rfl, rfl⟩]
  have l6 : σ0.2 o 6 = 0 := by rw [hσ0, stI_2, stL_2, if_pos ⟨rfl, rfl⟩]
  have l3 : ∀ i, i < 4 → σ0.2 (o + 3) i = 0 := fun i hi => by
    rw [hσ0, stI_2, stL_2, if_neg (by omega)]
    show (if o + 3 = o + 4 ∧ 0 ≤ i ∧ i < 10 then (0 : Int64) else if o + 3 = o + 3 ∧ 0 ≤ i ∧ i < 4 then 0 else _) = 0
    rw [if_neg (by omega), if_pos (by omega)]
  have l4 : ∀ i, i < 10 → σ0.2 (o + 4) i = 0 := fun i hi => by
    rw [hσ0, stI_2, stL_2, if_neg (by omega)]
    show (if o + 4 = o + 4 ∧ 0 ≤ i ∧ i < 10 then (0 : Int64) else _) = 0
    rw [if_pos (by omega)]
  have l9 : ∀ k i, ¬ (o ≤ k ∧ k ≤ o + 13) → σ0.2 k i = σC.2 k i := fun k i hk => by
    rw [hσ0, stI_2, stL_2, if_neg (by omega)]
    show (if k = o + 4 ∧ 0 ≤ i ∧ i < 10 then (0 : Int64) else if k = o + 3 ∧ 0 ≤ i ∧ i < 4 then 0 else _) = _
    rw [if_neg (by omega), if_neg (by omega)]; rfl
  have cf0 : CF o σC σ0 := fun k hk => ⟨by funext i; exact i1 k i (by omega), by funext i; exact l9 k i (by omega)⟩
  clear i9 hσ0
  -- the reference, before its first NODE
  obtain ⟨τ0, hτ0⟩ : ∃ τ0, τ0 = stI (stI (zL (stI (stI (stI (stI τ 0 24 0) 0 29 0) 0 21 0) 0 23 0) 20 0 4) 0 34 (-1)) 0 35 (-1) := ⟨_, rfl⟩
  have k1 : ∀ k i, ¬ (k = 0 ∧ (i = 21 ∨ i = 23 ∨ i = 24 ∨ i = 29 ∨ i = 34 ∨ i = 35)) → τ0.1 k i = τ.1 k i := fun k i hk => by
    rw [hτ0, stI_1, if_neg (by omega), stI_1, if_neg (by omega)]
    show (stI (stI (stI (stI τ 0 24 0) 0 29 0) 0 21 0) 0 23 0).1 k i = _
    rw [stI_1, if_neg (by omega), stI_1, if_neg (by omega), stI_1, if_neg (by omega), stI_1, if_neg (by omega)]
  have k24 : τ0.1 0 24 = 0 := by
    rw [hτ0, stI_1, if_neg (by omega), stI_1, if_neg (by omega)]
    show (stI (stI (stI (stI τ 0 24 0) 0 29 0) 0 21 0) 0 23 0).1 0 24 = _
    rw [stI_1, if_neg (by omega), stI_1, if_neg (by omega), stI_1, if_neg (by omega), stI_1, if_pos ⟨rfl, rfl⟩]
  have k29 : τ0.1 0 29 = 0 := by
    rw [hτ0, stI_1, if_neg (by omega), stI_1, if_neg (by omega)]
    show (stI (stI (stI (stI τ 0 24 0) 0 29 0) 0 21 0) 0 23 0).1 0 29 = _
    rw [stI_1, if_neg (by omega), stI_1, if_neg (by omega), stI_1, if_pos ⟨rfl, rfl⟩]
  have k21 : τ0.1 0 21 = 0 := by
    rw [hτ0, stI_1, if_neg (by omega), stI_1, if_neg (by omega)]
    show (stI (stI (stI (stI τ 0 24 0) 0 29 0) 0 21 0) 0 23 0).1 0 21 = _
    rw [stI_1, if_neg (by omega), stI_1, if_pos ⟨rfl, rfl⟩]
  have k23 : τ0.1 0 23 = 0 := by
    rw [hτ0, stI_1, if_neg (by omega), stI_1, if_neg (by omega)]
    show (stI (stI (stI (stI τ 0 24 0) 0 29 0) 0 21 0) 0 23 0).1 0 23 = _
    rw [stI_1, if_pos ⟨rfl, rfl⟩]
  have k34 : τ0.1 0 34 = -1 := by rw [hτ0, stI_1, if_neg (by omega), stI_1, if_pos ⟨rfl, rfl⟩]
  have k35 : τ0.1 0 35 = -1 := by rw [hτ0, stI_1, if_pos ⟨rfl, rfl⟩]
  have g20 : ∀ i, i < 4 → τ0.2 20 i = 0 := fun i hi => by
    rw [hτ0]
    show (if 20 = 20 ∧ 0 ≤ i ∧ i < 4 then (0 : Int64) else _) = 0
    rw [if_pos (by omega)]
  have g9 : ∀ k i, k ≠ 20 → τ0.2 k i = τ.2 k i := fun k i hk => by
    rw [hτ0]
    show (if k = 20 ∧ 0 ≤ i ∧ i < 4 then (0 : Int64) else _) = _
    rw [if_neg (by omega)]; rfl
  have mf0 : MF2 τ τ0 := ⟨fun k hk => ⟨by funext i; exact k1 k i (by omega), by funext i; exact g9 k i (by omega)⟩, fun j h1 _ h3 h4 h5 h6 h7 => k1 0 j (by omega)⟩
  have eM : ∀ x, (f_X7_newNode start τ0).bind (fun r26 => f_X7_finds_64 1000002 (stI r26.2 0 22 1)) = x → f_X7_finds τ = x := fun x hx => by
    unfold f_X7_finds
    refine g_finds22 4 2000 0 _ (by omega) (by omega) ?_
    rw [← hτ0, k1 0 17 (by omega), hst]
    exact hx
  clear hτ0
  -- the first NODE
  have hw : f_X5_nodeWith o start 0 σ0 = some (-1) := by
    unfold f_X5_nodeWith
    rw [f_X5_nodeWith_2, if_pos (by omega)]
  have hw2 : f_X7_nodeOf start τ0 = some ((0 : Nat) : Int) := by
    unfold f_X7_nodeOf
    rw [f_X7_nodeOf_2, if_pos (by omega)]; rfl
  obtain ⟨σ1, c1, c2⟩ := e_nodeFor_new (n := 0) (m := start) (c := 0) (by rw [j2]; rfl) (by omega) hw
  obtain ⟨τ1, m1, m2⟩ := g_newNode_new (n := 0) (by rw [k24]; rfl) (by omega) hw2
  rw [k34, k35] at m2
  have s0 : ∀ k i, ¬ (k = o ∧ i = 7) → (stI σ0 o 7 0).1 k i = σ0.1 k i := fun k i hk => by rw [stI_1, if_neg hk]
  have u0 : ∀ k i, ¬ (k = 0 ∧ i = 22) → (stI τ0 0 22 0).1 k i = τ0.1 k i := fun k i hk => by rw [stI_1, if_neg hk]
  have hPs : PR (stI σ0 o 7 0) (stI τ0 0 22 0) := PR_frame2 ho hP (cf0.tr (st7_CF (z := 0))) (mf0.tr ⟨fun k hk => ⟨by funext i; exact u0 k i (by omega), rfl⟩, fun j _ h2 _ _ _ _ _ => u0 0 j (by omega)⟩)
  have e18 : τ0.1 0 18 = mode := (k1 0 18 (by omega)).trans hm
  have e19 : τ0.1 0 19 = depth := (k1 0 19 (by omega)).trans hd
  have hRF : RF o (stI σ0 o 7 0) (stI τ0 0 22 0) := by
    refine RF_start hPs ?_ ?_ ?_ ?_ ?_ ?_ ?_ ?_ ?_ ?_ ?_ ?_ l3 g20 l4 l6
    · rw [s0 _ _ (by omega), j2]
    · rw [s0 _ _ (by omega), j3]
    · rw [s0 _ _ (by omega), u0 _ _ (by omega), j0, e18]
    · rw [s0 _ _ (by omega), u0 _ _ (by omega), j1, e19]
    · rw [stI_1, if_pos ⟨rfl, rfl⟩]
    · rw [s0 _ _ (by omega), j8]
    · rw [stI_1, if_pos ⟨rfl, rfl⟩]
    · rw [u0 _ _ (by omega), k21]
    · rw [u0 _ _ (by omega), k24]
    · rw [u0 _ _ (by omega), k29]
    · rw [u0 _ _ (by omega), e18]; exact rm
    · rw [u0 _ _ (by omega), e19]; exact rd
  have c2' : NdC o (stI σ0 o 7 0) σ1 0 start (pk (-1) (-1)) := ⟨c2.1, fun k i hk => by rw [s0 _ _ (by omega)]; exact c2.2.1 k i hk, c2.2.2.1, c2.2.2.2⟩
  have m2' : NdM (stI τ0 0 22 0) τ1 0 start (-1) (-1) := ⟨m2.1, fun k i hk => by rw [u0 _ _ (by omega)]; exact m2.2.1 k i hk, m2.2.2.1, m2.2.2.2⟩
  have hRF1 := RF_nd ho hRF (n := 0) (m := start) (a := -1) (b := -1) (by rw [u0 _ _ (by omega), k24]; rfl) (by omega) (by rw [s0 _ _ (by omega), i1 1 1 (by omega)]; exact rs) (by omega) (by omega) (fun _ => rfl) (fun _ => rfl) (fun i hi => by rw [u0 _ _ (by omega), k24] at hi; omega) c2' m2'
  have mfA : MF2 τ τ1 := mf0.tr (NdM_MF m2).two
  have cfA : CF o σC σ1 := cf0.tr (NdC_CF c2)
  have e24 : τ1.1 0 24 = 1 := m2.1.1
  have hO : Org σ1 τ1 := fun t h0 ht => by omega
  have hRoot : Root τ1 start := ⟨by omega, m2.1.2.2.1, m2.1.2.2.2.1, m2.1.2.2.2.2⟩
  have e21 : τ1.1 0 21 = 0 := (m2.2.1 0 21 (by omega)).trans k21
  have e19' : τ1.1 0 19 = depth := (m2.2.1 0 19 (by omega)).trans e19
  obtain ⟨σ2, τ2, w1, w2, w3, w4, w5⟩ := rounds_loop ho (m := start) 61001 1000002 σ1 τ1 hRF1 (by rw [c2.2.1 _ _ (by omega), j4]) (by rw [m2.2.1 _ _ (by omega), k23]) m2.1.2.1 hO hRoot (by omega) (by omega) (by omega)
  refine ⟨σ2, τ2, ?_, ?_, cfA.tr w3, mfA.tr w4, ?_⟩
  · rw [eC, c1, bind_s]
    show f_X0_attempt_47 o 1000002 (stI σ1 o 7 1) = _
    rw [st_id c2.1.2.1, w1]
  · apply eM
    rw [m1, bind_s]
    show f_X7_finds_64 1000002 (stI τ1 0 22 1) = _
    rw [st_id m2.1.2.1, w2]
  · rcases w5 with w5 | ⟨w5, w6⟩
    · exact Or.inl w5
    · exact Or.inr ⟨by rw [← e19']; exact w5, w6⟩
/-! by a lesser DEPTH, while there are too many -/
def MF3 (τ τ' : Mm) : Prop := (∀ k, (1 ≤ k ∧ k ≤ 12) ∨ 21 ≤ k → τ'.1 k = τ.1 k ∧ τ'.2 k = τ.2 k) ∧ (∀ j, j ≠ 18 → j ≠ 19 → j ≠ 21 → j ≠ 22 → j ≠ 23 → j ≠ 24 → j ≠ 29 → j ≠ 34 → j ≠ 35 → τ'.1 0 j = τ.1 0 j)
theorem MF3.tr {a b c : Mm} (h1 : MF3 a b) (h2 : MF3 b c) : MF3 a c := ⟨fun k hk => ⟨(h2.1 k hk).1.trans (h1.1 k hk).1, (h2.1 k hk).2.trans (h1.1 k hk).2⟩, fun j a8 a9 a0 a1 a2 a3 a4 a5 a6 => (h2.2 j a8 a9 a0 a1 a2 a3 a4 a5 a6).trans (h1.2 j a8 a9 a0 a1 a2 a3 a4 a5 a6)⟩
theorem MF2.three {a b : Mm} (h : MF2 a b) : MF3 a b := ⟨h.1, fun j _ _ a0 a1 a2 a3 a4 a5 a6 => h.2 j a0 a1 a2 a3 a4 a5 a6⟩
theorem MF3_st {τ : Mm} {j : Nat} {v : Int} (hj : j = 18 ∨ j = 19) : MF3 τ (stI τ 0 j v) := ⟨fun k hk => ⟨by funext i; rw [stI_1, if_neg (by omega)], rfl⟩, fun i h1 h2 _ _ _ _ _ _ _ => by rw [stI_1, if_neg (by omega)]⟩
theorem PR_frame3 {o : Nat} (ho : o = 15 ∨ o = 29) {σC σC' τ τ' : Mm} (h : PR σC τ) (hC : CF o σC σC') (hM : MF3 τ τ') : PR σC' τ' :=
  PR_congr h (fun k _ k14 => (hC k (Or.inl (by omega))).1) (fun k k1 k12 => (hM.1 k (Or.inl ⟨k1, k12⟩)).1) (hM.2 0 (by decide) (by decide) (by decide) (by decide) (by decide) (by decide) (by decide) (by decide) (by decide)) (hM.2 2 (by decide) (by decide) (by decide) (by decide) (by decide) (by decide) (by decide) (by decide) (by decide)) (hM.2 7 (by decide) (by decide) (by decide) (by decide) (by decide) (by decide) (by decide) (by decide) (by decide)) (hM.2 8 (by decide) (by decide) (by decide) (by decide) (by decide) (by decide) (by decide) (by decide) (by decide))
theorem search_aux {o : Nat} (ho : o = 15 ∨ o = 29) {start mode : Int} (rm : 0 ≤ mode ∧ mode ≤ 2) : ∀ (d f g : Nat) (σC τ : Mm), PR σC τ → τ.1 0 18 = mode → τ.1 0 19 = d → τ.1 0 17 = start → d ≤ 2 → (0 ≤ start ∧ start < σC.1 1 1) → d < f → d < g → ∃ σ1 τ1, f_X0_find_3 o f start mode d σC = (f_X0_countLeaders o σ1).bind (fun r => some (r.1 (o + 9) 1, r)) ∧ (f_X7_finds τ).bind (fun r8 => f_X7_findsAll_14 g r8) = some τ1 ∧ CF o σC σ1 ∧ MF3 τ τ1 ∧ FdEnd o σ1 τ1 ∧ Root τ1 start ∧ τ1.1 0 18 = mode ∧ τ1.1 0 17 = start := by
  intro d
  induction d with
  | zero =>
    intro f g σC τ hP hm hd hst hd2 rs hf hg
    obtain ⟨f, rfl⟩ : ∃ k, f = k + 1 := ⟨f - 1, by omega⟩
    obtain ⟨g, rfl⟩ : ∃ k, g = k + 1 := ⟨g - 1, by omega⟩
    obtain ⟨σ1, τ1, w1, w2, w3, w4, w5⟩ := attempt_sim ho hP hm hd hst rm (by omega) rs
    rcases w5 with ⟨w5, w6⟩ | ⟨w5, -⟩
    · refine ⟨σ1, τ1, ?_, ?_, w3, w4.three, w5, w6, ?_, ?_⟩
      · rw [f_X0_find_3, if_neg (by omega), w1, bind_s, if_pos w5.2.1]
      · rw [w2, bind_s, f_X7_findsAll_14, if_pos w5.2.2.1]
      · rw [w4.2 18 (by decide) (by decide) (by decide) (by decide) (by decide) (by decide) (by decide)]; exact hm
      · rw [w4.2 17 (by decide) (by decide) (by decide) (by decide) (by decide) (by decide) (by decide)]; exact hst
    · omega
  | succ d ih =>
    intro f g σC τ hP hm hd hst hd2 rs hf hg
    obtain ⟨f, rfl⟩ : ∃ k, f = k + 1 := ⟨f - 1, by omega⟩
    obtain ⟨g, rfl⟩ : ∃ k, g = k + 1 := ⟨g - 1, by omega⟩
    obtain ⟨σ1, τ1, w1, w2, w3, w4, w5⟩ := attempt_sim ho hP hm hd hst rm (by omega) rs
    have e18 : τ1.1 0 18 = mode := (w4.2 18 (by decide) (by decide) (by decide) (by decide) (by decide) (by decide) (by decide)).trans hm
    have e17 : τ1.1 0 17 = start := (w4.2 17 (by decide) (by decide) (by decide) (by decide) (by decide) (by decide) (by decide)).trans hst
    have e19 : τ1.1 0 19 = ((d + 1 : Nat) : Int) := (w4.2 19 (by decide) (by decide) (by decide) (by decide) (by decide) (by decide) (by decide)).trans hd
    rcases w5 with ⟨w5, w6⟩ | ⟨w5, w6, w7⟩
    · refine ⟨σ1, τ1, ?_, ?_, w3, w4.three, w5, w6, e18, e17⟩
      · rw [f_X0_find_3, if_neg (by omega), w1, bind_s, if_pos w5.2.1]
      · rw [w2, bind_s, f_X7_findsAll_14, if_pos w5.2.2.1]
    · have hpr := CF_prog ho w3
      have m3 : MF3 τ (stI τ1 0 19 d) := w4.three.tr (MF3_st (Or.inr rfl))
      obtain ⟨σ2, τ2, v1, v2, v3, v4, v5, v6, v7, v8⟩ := ih f g σ1 (stI τ1 0 19 d) (PR_frame3 ho hP w3 m3) (by rw [stI_1, if_neg (by omega)]; exact e18) (by rw [stI_1, if_pos ⟨rfl, rfl⟩]) (by rw [stI_1, if_neg (by omega)]; exact e17) (by omega) (by rw [hpr 1 (by omega) (by omega)]; exact rs) (by omega) (by omega)
      refine ⟨σ2, τ2, ?_, ?_, w3.tr v3, m3.tr v4, v5, v6, v7, v8⟩
      · rw [f_X0_find_3, if_neg (by omega), w1, bind_s, if_neg (by omega), ck_pos (by omega), show ((d + 1 : Nat) : Int) + (-1) = d by omega, v1]
      · rw [w2, bind_s, f_X7_findsAll_14, if_neg (by omega), e19, ck_pos (by omega), show ((d + 1 : Nat) : Int) - 1 = d by omega, v2]
