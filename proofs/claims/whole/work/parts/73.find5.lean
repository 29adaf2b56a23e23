/-! finding a NODE, a NAME -/
theorem find_node_aux {o : Nat} {σC τ : Mm} (h : RF o σC τ) {m a b : Int} (ha : τ.1 0 34 = a) (hb : τ.1 0 35 = b) (ra : -1 ≤ a ∧ a ≤ 189) (rb : -1 ≤ b ∧ b ≤ 189) : ∀ (k f j : Nat), (j : Int) + k = τ.1 0 24 → k < f → (∀ n : Nat, n < j → ¬ (τ.1 13 n = m ∧ τ.1 14 n = a ∧ τ.1 15 n = b)) → (∃ n : Nat, (n : Int) < τ.1 0 24 ∧ τ.1 13 n = m ∧ τ.1 14 n = a ∧ τ.1 15 n = b ∧ f_X5_nodeWith_2 o f m (pk a b) j σC = some (n : Int) ∧ f_X7_nodeOf_2 f m j τ = some (n : Int)) ∨ ((∀ n : Nat, (n : Int) < τ.1 0 24 → ¬ (τ.1 13 n = m ∧ τ.1 14 n = a ∧ τ.1 15 n = b)) ∧ f_X5_nodeWith_2 o f m (pk a b) j σC = some (-1) ∧ f_X7_nodeOf_2 f m j τ = some (τ.1 0 24)) := by
  obtain ⟨-, ⟨⟨t1, -⟩, s7, -⟩, hnn, -⟩ := h
  intro k
  induction k with
  | zero =>
    intro f j hj hf hno
    obtain ⟨f, rfl⟩ : ∃ g, f = g + 1 := ⟨f - 1, by omega⟩
    right
    rw [f_X5_nodeWith_2, f_X7_nodeOf_2, if_pos (by omega), if_pos (by omega), show (j : Int) = τ.1 0 24 by omega]
    exact ⟨fun n hn => hno n (by omega), rfl, rfl⟩
  | succ k ih =>
    intro f j hj hf hno
    obtain ⟨f, rfl⟩ : ∃ g, f = g + 1 := ⟨f - 1, by omega⟩
    obtain ⟨⟨n1, n2⟩, -, n4, n5, -⟩ := hnn j (by omega)
    have nx : ¬ (τ.1 13 j = m ∧ τ.1 14 j = a ∧ τ.1 15 j = b) → _ := fun hj' => ih f (j + 1) (by omega) (by omega) (fun n hn => by
      by_cases e : n = j
      · rw [e]; exact hj'
      · exact hno n (by omega))
    have cc : ((j + 1 : Nat) : Int) = (j : Int) + 1 := by omega
    simp only [cc] at nx
    have eC : f_X5_nodeWith_2 o (f + 1) m (pk a b) j σC = if τ.1 13 j = m ∧ τ.1 14 j = a ∧ τ.1 15 j = b then some (j : Int) else f_X5_nodeWith_2 o f m (pk a b) ((j : Int) + 1) σC := by
      rw [f_X5_nodeWith_2, if_neg (by omega), ck_pos (by omega), Int.toNat_natCast, n1, n2, show (τ.1 14 j + 1) * 256 + (τ.1 15 j + 1) = pk (τ.1 14 j) (τ.1 15 j) from rfl]
      by_cases h1 : τ.1 13 j = m
      · rw [if_pos h1, ck_pos (by omega)]
        by_cases h2 : τ.1 14 j = a ∧ τ.1 15 j = b
        · rw [if_pos (by rw [h2.1, h2.2]), if_pos ⟨h1, h2⟩]
        · rw [if_neg (fun z => h2 (pk_inj n5 rb z)), if_neg (fun z => h2 z.2), ck_pos (by omega)]
      · rw [if_neg h1, if_neg (fun z => h1 z.1), ck_pos (by omega)]
    have eM : f_X7_nodeOf_2 (f + 1) m j τ = if τ.1 13 j = m ∧ τ.1 14 j = a ∧ τ.1 15 j = b then some (j : Int) else f_X7_nodeOf_2 f m ((j : Int) + 1) τ := by
      rw [f_X7_nodeOf_2, if_neg (by omega), ck_pos (by omega), Int.toNat_natCast, ha, hb]
      by_cases h1 : τ.1 13 j = m
      · rw [if_pos h1, ck_pos (by omega)]
        by_cases h2 : τ.1 14 j = a
        · rw [if_pos h2, ck_pos (by omega)]
          by_cases h3 : τ.1 15 j = b
          · rw [if_pos h3, if_pos ⟨h1, h2, h3⟩]
          · rw [if_neg h3, if_neg (fun z => h3 z.2.2), ck_pos (by omega)]
        · rw [if_neg h2, if_neg (fun z => h2 z.2.1), ck_pos (by omega)]
      · rw [if_neg h1, if_neg (fun z => h1 z.1), ck_pos (by omega)]
    rw [eC, eM]
    by_cases hm : τ.1 13 j = m ∧ τ.1 14 j = a ∧ τ.1 15 j = b
    · rw [if_pos hm, if_pos hm]
      exact Or.inl ⟨j, by omega, hm.1, hm.2.1, hm.2.2, rfl, rfl⟩
    · rw [if_neg hm, if_neg hm]
      exact nx hm
theorem find_node {o : Nat} {σC τ : Mm} (h : RF o σC τ) {m a b : Int} (ha : τ.1 0 34 = a) (hb : τ.1 0 35 = b) (ra : -1 ≤ a ∧ a ≤ 189) (rb : -1 ≤ b ∧ b ≤ 189) : (∃ n : Nat, (n : Int) < τ.1 0 24 ∧ τ.1 13 n = m ∧ τ.1 14 n = a ∧ τ.1 15 n = b ∧ f_X5_nodeWith o m (pk a b) σC = some (n : Int) ∧ f_X7_nodeOf m τ = some (n : Int)) ∨ ((∀ n : Nat, (n : Int) < τ.1 0 24 → ¬ (τ.1 13 n = m ∧ τ.1 14 n = a ∧ τ.1 15 n = b)) ∧ f_X5_nodeWith o m (pk a b) σC = some (-1) ∧ f_X7_nodeOf m τ = some (τ.1 0 24)) := by
  have s7 := h.2.1.2.1
  exact find_node_aux h ha hb ra rb (Int.toNat (τ.1 0 24)) 2000 0 (by omega) (by omega) (fun n hn => by omega)
theorem find_name_aux {o : Nat} {σC τ : Mm} (h : RF o σC τ) {n s : Int} : ∀ (k f j : Nat), (j : Int) + k = τ.1 0 29 → k < f → (∀ x : Nat, x < j → ¬ (τ.1 17 x = s ∧ τ.1 18 x = n)) → (∃ x : Nat, (x : Int) < τ.1 0 29 ∧ τ.1 17 x = s ∧ τ.1 18 x = n ∧ f_X5_nameWith_2 o f n s j σC = some (x : Int) ∧ f_X7_nameOf_2 f s n j τ = some (x : Int)) ∨ ((∀ x : Nat, (x : Int) < τ.1 0 29 → ¬ (τ.1 17 x = s ∧ τ.1 18 x = n)) ∧ f_X5_nameWith_2 o f n s j σC = some (-1) ∧ f_X7_nameOf_2 f s n j τ = some (τ.1 0 29)) := by
  obtain ⟨-, ⟨⟨-, t2, -⟩, -, s8, -⟩, -, hxx, -⟩ := h
  intro k
  induction k with
  | zero =>
    intro f j hj hf hno
    obtain ⟨f, rfl⟩ : ∃ g, f = g + 1 := ⟨f - 1, by omega⟩
    right
    rw [f_X5_nameWith_2, f_X7_nameOf_2, if_pos (by omega), if_pos (by omega), show (j : Int) = τ.1 0 29 by omega]
    exact ⟨fun n hn => hno n (by omega), rfl, rfl⟩
  | succ k ih =>
    intro f j hj hf hno
    obtain ⟨f, rfl⟩ : ∃ g, f = g + 1 := ⟨f - 1, by omega⟩
    obtain ⟨⟨n1, n2⟩, -⟩ := hxx j (by omega)
    have nx : ¬ (τ.1 17 j = s ∧ τ.1 18 j = n) → _ := fun hj' => ih f (j + 1) (by omega) (by omega) (fun n hn => by
      by_cases e : n = j
      · rw [e]; exact hj'
      · exact hno n (by omega))
    have cc : ((j + 1 : Nat) : Int) = (j : Int) + 1 := by omega
    simp only [cc] at nx
    have eC : f_X5_nameWith_2 o (f + 1) n s j σC = if τ.1 17 j = s ∧ τ.1 18 j = n then some (j : Int) else f_X5_nameWith_2 o f n s ((j : Int) + 1) σC := by
      rw [f_X5_nameWith_2, if_neg (by omega), ck_pos (by omega), Int.toNat_natCast, n1, n2]
      by_cases h1 : τ.1 17 j = s
      · rw [if_pos h1, ck_pos (by omega)]
        by_cases h2 : τ.1 18 j = n
        · rw [if_pos h2, if_pos ⟨h1, h2⟩]
        · rw [if_neg h2, if_neg (fun z => h2 z.2), ck_pos (by omega)]
      · rw [if_neg h1, if_neg (fun z => h1 z.1), ck_pos (by omega)]
    have eM : f_X7_nameOf_2 (f + 1) s n j τ = if τ.1 17 j = s ∧ τ.1 18 j = n then some (j : Int) else f_X7_nameOf_2 f s n ((j : Int) + 1) τ := by
      rw [f_X7_nameOf_2, if_neg (by omega), ck_pos (by omega), Int.toNat_natCast]
      by_cases h1 : τ.1 17 j = s
      · rw [if_pos h1, ck_pos (by omega)]
        by_cases h2 : τ.1 18 j = n
        · rw [if_pos h2, if_pos ⟨h1, h2⟩]
        · rw [if_neg h2, if_neg (fun z => h2 z.2), ck_pos (by omega)]
      · rw [if_neg h1, if_neg (fun z => h1 z.1), ck_pos (by omega)]
    rw [eC, eM]
    by_cases hm : τ.1 17 j = s ∧ τ.1 18 j = n
    · rw [if_pos hm, if_pos hm]
      exact Or.inl ⟨j, by omega, hm.1, hm.2, rfl, rfl⟩
    · rw [if_neg hm, if_neg hm]
      exact nx hm
theorem find_name {o : Nat} {σC τ : Mm} (h : RF o σC τ) (n s : Int) : (∃ x : Nat, (x : Int) < τ.1 0 29 ∧ τ.1 17 x = s ∧ τ.1 18 x = n ∧ f_X5_nameWith o n s σC = some (x : Int) ∧ f_X7_nameOf s n τ = some (x : Int)) ∨ ((∀ x : Nat, (x : Int) < τ.1 0 29 → ¬ (τ.1 17 x = s ∧ τ.1 18 x = n)) ∧ f_X5_nameWith o n s σC = some (-1) ∧ f_X7_nameOf s n τ = some (τ.1 0 29)) := by
  have s8 := h.2.1.2.2.1
  exact find_name_aux h (Int.toNat (τ.1 0 29)) 2000 0 (by omega) (by omega) (fun n hn => by omega)
/-! emptying a stretch of a row of sets -/
def zL (σ : Mm) (c lo hi : Nat) : Mm := (σ.1, fun k i => if k = c ∧ lo ≤ i ∧ i < hi then 0 else σ.2 k i)
theorem zL_st {σ : Mm} {c lo hi : Nat} (h : lo < hi) : zL (stL σ c lo 0) c (lo + 1) hi = zL σ c lo hi := by
  refine Prod.ext rfl ?_
  funext k i
  show (if k = c ∧ lo + 1 ≤ i ∧ i < hi then (0 : Int64) else (stL σ c lo 0).2 k i) = if k = c ∧ lo ≤ i ∧ i < hi then 0 else σ.2 k i
  rw [stL_2]
  by_cases hk : k = c ∧ lo ≤ i ∧ i < hi
  · rw [if_pos hk]
    by_cases hl : i = lo
    · rw [if_neg (by omega), if_pos (by omega)]
    · rw [if_pos (by omega)]
  · rw [if_neg hk, if_neg (by omega), if_neg (by omega)]
theorem zL_0 {σ : Mm} {c lo : Nat} : zL σ c lo lo = σ := by
  refine Prod.ext rfl ?_
  funext k i
  show (if k = c ∧ lo ≤ i ∧ i < lo then (0 : Int64) else σ.2 k i) = σ.2 k i
  rw [if_neg (by omega)]
theorem e_nodeFor35 {o n : Nat} (hn : n < 80) : ∀ (k f v : Nat) (σ : Mm), v + k = 8 → k < f → f_X0_nodeFor_35 o f n v σ = some ((n : Int), stI (zL σ (o + 1) (8 * n + v) (8 * n + 8)) o 7 1) := by
  intro k
  induction k with
  | zero =>
    intro f v σ hv hf
    obtain ⟨f, rfl⟩ : ∃ g, f = g + 1 := ⟨f - 1, by omega⟩
    obtain rfl : v = 8 := by omega
    rw [f_X0_nodeFor_35, if_pos (by omega), zL_0]
  | succ k ih =>
    intro f v σ hv hf
    obtain ⟨f, rfl⟩ : ∃ g, f = g + 1 := ⟨f - 1, by omega⟩
    rw [f_X0_nodeFor_35, if_neg (by omega), ck_pos (by omega), ck_pos (by omega), show ((v : Int) + 1) = ((v + 1 : Nat) : Int) by omega, ih f (v + 1) _ (by omega) (by omega), show Int.toNat ((n : Int) * 8 + v) = 8 * n + v by omega, show 8 * n + (v + 1) = 8 * n + v + 1 by omega, zL_st (by omega)]
theorem g_newNode56 {n : Nat} (hn : n < 80) {q : Int} (hq : inR (q + 1)) : ∀ (k f v : Nat) (σ : Mm), σ.1 0 24 = q → v + k = 8 → k < f → f_X7_newNode_56 f n v σ = some ((n : Int), stI (stI (zL σ 16 (8 * n + v) (8 * n + 8)) 0 24 (q + 1)) 0 22 1) := by
  intro k
  induction k with
  | zero =>
    intro f v σ hs hv hf
    obtain ⟨f, rfl⟩ : ∃ g, f = g + 1 := ⟨f - 1, by omega⟩
    obtain rfl : v = 8 := by omega
    rw [f_X7_newNode_56, if_pos (by omega), zL_0, hs, ck_pos hq]
  | succ k ih =>
    intro f v σ hs hv hf
    obtain ⟨f, rfl⟩ : ∃ g, f = g + 1 := ⟨f - 1, by omega⟩
    rw [f_X7_newNode_56, if_neg (by omega), ck_pos (by omega), ck_pos (by omega), show ((v : Int) + 1) = ((v + 1 : Nat) : Int) by omega, ih f (v + 1) (stL σ 16 (Int.toNat (8 * (n : Int) + v)) 0) hs (by omega) (by omega), show Int.toNat (8 * (n : Int) + v) = 8 * n + v by omega, show 8 * n + (v + 1) = 8 * n + v + 1 by omega, zL_st (by omega)]
/-! a new NODE -/
def NdM (τ τ' : Mm) (n : Nat) (m a b : Int) : Prop := (τ'.1 0 24 = n + 1 ∧ τ'.1 0 22 = 1 ∧ τ'.1 13 n = m ∧ τ'.1 14 n = a ∧ τ'.1 15 n = b) ∧ (∀ k i, ¬ ((k = 0 ∧ (i = 24 ∨ i = 22)) ∨ ((k = 13 ∨ k = 14 ∨ k = 15) ∧ i = n)) → τ'.1 k i = τ.1 k i) ∧ (∀ v, v < 8 → τ'.2 16 (8 * n + v) = 0) ∧ ∀ k i, ¬ (k = 16 ∧ 8 * n ≤ i ∧ i < 8 * n + 8) → τ'.2 k i = τ.2 k i
def NdC (o : Nat) (σ σ' : Mm) (n : Nat) (m c : Int) : Prop := (σ'.1 (o + 9) 2 = n + 1 ∧ σ'.1 o 7 = 1 ∧ σ'.1 (o + 10) n = m ∧ σ'.1 (o + 11) n = c) ∧ (∀ k i, ¬ ((k = o + 9 ∧ i = 2) ∨ (k = o ∧ i = 7) ∨ ((k = o + 10 ∨ k = o + 11) ∧ i = n)) → σ'.1 k i = σ.1 k i) ∧ (∀ v, v < 8 → σ'.2 (o + 1) (8 * n + v) = 0) ∧ ∀ k i, ¬ (k = o + 1 ∧ 8 * n ≤ i ∧ i < 8 * n + 8) → σ'.2 k i = σ.2 k i
theorem e_nodeFor_new {o : Nat} {σ : Mm} {n : Nat} {m c : Int} (hn : σ.1 (o + 9) 2 = n) (h80 : n < 80) (hw : f_X5_nodeWith o m c σ = some (-1)) : ∃ σ', f_X0_nodeFor o m c σ = some ((n : Int), σ') ∧ NdC o σ σ' n m c := by
  unfold f_X0_nodeFor
  rw [hw, bind_s, if_pos (by omega)]
  unfold f_X5_addNode
  have e1 : (stI σ (o + 10) n m).1 (o + 9) 2 = n := by rw [stI_1, if_neg (by omega), hn]
  have e2 : ∀ z, (stI (stI σ (o + 10) n m) (o + 11) n z).1 (o + 9) 2 = n := fun z => by rw [stI_1, if_neg (by omega), e1]
  rw [hn, if_pos (by omega), ck_pos (by omega), Int.toNat_natCast, e1, ck_pos (by omega), bind_s, Int.toNat_natCast, e2, ck_pos (by omega)]
  have e3 : ∀ σ : Mm, (stI σ (o + 9) 2 ((n : Int) + 1)).1 (o + 9) 2 = (n : Int) + 1 := fun σ => by rw [stI_1, if_pos ⟨rfl, rfl⟩]
  rw [e3, ck_pos (by omega), bind_s]
  show ∃ σ', (if ((n : Int) + 1 - 1) < 0 then _ else f_X0_nodeFor_35 o 2000 ((n : Int) + 1 - 1) 0 _) = some _ ∧ _
  rw [if_neg (by omega), show ((n : Int) + 1 - 1) = n by omega]
  have e4 := e_nodeFor35 (o := o) h80 8 2000 0 (stI (stI (stI σ (o + 10) n m) (o + 11) n c) (o + 9) 2 ((n : Int) + 1)) (by omega) (by omega)
  rw [show ((0 : Nat) : Int) = 0 from rfl] at e4
  rw [e4]
  refine ⟨_, rfl, ⟨?_, ?_, ?_, ?_⟩, fun k i hk => ?_, fun v hv => ?_, fun k i hk => ?_⟩
  · show (stI (zL (stI (stI (stI σ (o + 10) n m) (o + 11) n c) (o + 9) 2 ((n : Int) + 1)) (o + 1) (8 * n + 0) (8 * n + 8)) o 7 1).1 (o + 9) 2 = _
    rw [stI_1, if_neg (by omega)]; exact e3 _
  · rw [stI_1, if_pos ⟨rfl, rfl⟩]
  · rw [stI_1, if_neg (by omega)]
    show (stI (stI (stI σ (o + 10) n m) (o + 11) n c) (o + 9) 2 ((n : Int) + 1)).1 (o + 10) n = m
    rw [stI_1, if_neg (by omega), stI_1, if_neg (by omega), stI_1, if_pos ⟨rfl, rfl⟩]
  · rw [stI_1, if_neg (by omega)]
    show (stI (stI (stI σ (o + 10) n m) (o + 11) n c) (o + 9) 2 ((n : Int) + 1)).1 (o + 11) n = c
    rw [stI_1, if_neg (by omega), stI_1, if_pos ⟨rfl, rfl⟩]
  · rw [stI_1, if_neg (by omega)]
    show (stI (stI (stI σ (o + 10) n m) (o + 11) n c) (o + 9) 2 ((n : Int) + 1)).1 k i = σ.1 k i
    rw [stI_1, if_neg (by omega), stI_1, if_neg (by omega), stI_1, if_neg (by omega)]
  · show (if o + 1 = o + 1 ∧ 8 * n + 0 ≤ 8 * n + v ∧ 8 * n + v < 8 * n + 8 then (0 : Int64) else _) = 0
    rw [if_pos (by omega)]
  · show (if k = o + 1 ∧ 8 * n + 0 ≤ i ∧ i < 8 * n + 8 then (0 : Int64) else _) = _
    rw [if_neg (by omega)]; rfl
theorem e_nodeFor_full {o : Nat} {σ : Mm} {m c : Int} (hn : σ.1 (o + 9) 2 = 80) (hw : f_X5_nodeWith o m c σ = some (-1)) : f_X0_nodeFor o m c σ = some (-1, stI σ (o + 9) 4 1) := by
  unfold f_X0_nodeFor
  rw [hw, bind_s, if_pos (by omega)]
  unfold f_X5_addNode
  rw [if_neg (by omega), bind_s]
  show (if ((-1 : Int)) < 0 then _ else _) = _
  rw [if_pos (by omega)]
theorem e_nodeFor_old {o : Nat} {σ : Mm} {n : Nat} {m c : Int} (hw : f_X5_nodeWith o m c σ = some (n : Int)) : f_X0_nodeFor o m c σ = some ((n : Int), σ) := by
  unfold f_X0_nodeFor
  rw [hw, bind_s, if_neg (by omega)]
theorem g_newNode_new {τ : Mm} {n : Nat} {m : Int} (hn : τ.1 0 24 = n) (h80 : n < 80) (hw : f_X7_nodeOf m τ = some (n : Int)) : ∃ τ', f_X7_newNode m τ = some ((n : Int), τ') ∧ NdM τ τ' n m (τ.1 0 34) (τ.1 0 35) := by
  unfold f_X7_newNode
  rw [hw, bind_s, if_neg (by omega), hn, if_pos rfl, ck_pos (by omega), ck_pos (by omega), bind_s, ck_pos (by omega), Int.toNat_natCast]
  have e1 : (stI τ 13 n m).1 0 34 = τ.1 0 34 := by rw [stI_1, if_neg (by omega)]
  have e2 : ∀ z, (stI (stI τ 13 n m) 14 n z).1 0 35 = τ.1 0 35 := fun z => by rw [stI_1, if_neg (by omega), stI_1, if_neg (by omega)]
  rw [e1, e2]
  have e4 := g_newNode56 h80 (q := (n : Int)) (by omega) 8 2000 0 (stI (stI (stI τ 13 n m) 14 n (τ.1 0 34)) 15 n (τ.1 0 35)) (by rw [stI_1, if_neg (by omega), stI_1, if_neg (by omega), stI_1, if_neg (by omega), hn]) (by omega) (by omega)
  rw [show ((0 : Nat) : Int) = 0 from rfl] at e4
  rw [e4]
  refine ⟨_, rfl, ⟨?_, ?_, ?_, ?_, ?_⟩, fun k i hk => ?_, fun v hv => ?_, fun k i hk => ?_⟩
  · rw [stI_1, if_neg (by omega), stI_1, if_pos ⟨rfl, rfl⟩]
  · rw [stI_1, if_pos ⟨rfl, rfl⟩]
  · rw [stI_1, if_neg (by omega), stI_1, if_neg (by omega)]
    show (stI (stI (stI τ 13 n m) 14 n (τ.1 0 34)) 15 n (τ.1 0 35)).1 13 n = _
    rw [stI_1, if_neg (by omega), stI_1, if_neg (by omega), stI_1, if_pos ⟨rfl, rfl⟩]
  · rw [stI_1, if_neg (by omega), stI_1, if_neg (by omega)]
    show (stI (stI (stI τ 13 n m) 14 n (τ.1 0 34)) 15 n (τ.1 0 35)).1 14 n = _
    rw [stI_1, if_neg (by omega), stI_1, if_pos ⟨rfl, rfl⟩]
  · rw [stI_1, if_neg (by omega), stI_1, if_neg (by omega)]
    show (stI (stI (stI τ 13 n m) 14 n (τ.1 0 34)) 15 n (τ.1 0 35)).1 15 n = _
    rw [stI_1, if_pos ⟨rfl, rfl⟩]
  · rw [stI_1, if_neg (by omega), stI_1, if_neg (by omega)]
    show (stI (stI (stI τ 13 n m) 14 n (τ.1 0 34)) 15 n (τ.1 0 35)).1 k i = _
    rw [stI_1, if_neg (by omega), stI_1, if_neg (by omega), stI_1, if_neg (by omega)]
  · show (if 16 = 16 ∧ 8 * n + 0 ≤ 8 * n + v ∧ 8 * n + v < 8 * n + 8 then (0 : Int64) else _) = 0
    rw [if_pos (by omega)]
  · show (if k = 16 ∧ 8 * n + 0 ≤ i ∧ i < 8 * n + 8 then (0 : Int64) else _) = _
    rw [if_neg (by omega)]; rfl
theorem g_newNode_full {τ : Mm} {m : Int} (hw : f_X7_nodeOf m τ = some 80) : f_X7_newNode m τ = some (0, stI τ 0 23 1) := by
  unfold f_X7_newNode
  rw [hw, bind_s, if_pos rfl]
theorem g_newNode_old {τ : Mm} {n : Nat} {m : Int} (hn : (n : Int) < τ.1 0 24) (h80 : τ.1 0 24 ≤ 80) (hw : f_X7_nodeOf m τ = some (n : Int)) : f_X7_newNode m τ = some ((n : Int), τ) := by
  unfold f_X7_newNode
  rw [hw, bind_s, if_neg (by omega), if_neg (by omega)]
