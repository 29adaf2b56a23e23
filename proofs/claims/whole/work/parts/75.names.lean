/-! the CLASS of what is made -/
theorem PR_okS {σC τ : Mm} (hP : PR σC τ) {s : Nat} (hs : (s : Int) < σC.1 1 2) : okS (σC.1 1 0) (σC.1 1 1) (σC.1 3) (σC.1 8 s) (σC.1 9 s) (σC.1 10 s) (σC.1 11 s) (σC.1 12 s) := (hP.2.2.2.2.2.1 s hs).2.2.2.2
theorem mcl_lt {σC τ : Mm} (hP : PR σC τ) {s : Nat} (hs : (s : Int) < σC.1 1 2) (hk : σC.1 8 s ≤ 1) : ((mcl σC s : Nat) : Int) < σC.1 1 0 := by
  obtain ⟨o1, -, o3, -⟩ := PR_okS hP hs
  have h10 := hP.1.1
  unfold mcl
  split <;> omega
theorem e_madeClass {σC τ : Mm} (hP : PR σC τ) {s : Nat} (hs : (s : Int) < σC.1 1 2) (hk : σC.1 8 s ≤ 1) : f_X3_madeClass s σC = some ((mcl σC s : Nat) : Int) := by
  obtain ⟨o1, -, o3, -⟩ := PR_okS hP hs
  have h12 := hP.1.2.2.1
  unfold f_X3_madeClass mcl
  rw [ck_pos (by omega), Int.toNat_natCast]
  by_cases h1 : σC.1 8 s = 1
  · rw [if_pos h1, if_pos h1]; rfl
  · rw [if_neg h1, if_neg h1, ck_pos (by omega)]
    congr 1
    omega
theorem g_classOf {o : Nat} {σC τ : Mm} (h : RF o σC τ) {x : Nat} (hx : (x : Int) < τ.1 0 29) : f_X7_classOf x τ = some ((mcl σC (xst τ x) : Nat) : Int) := by
  obtain ⟨hP, ⟨-, -, s8, -⟩, -, hxx, -⟩ := h
  obtain ⟨-, x2, x3, -⟩ := hxx x hx
  have hs : ((xst τ x : Nat) : Int) < σC.1 1 2 := by unfold xst; omega
  obtain ⟨o1, -, o3, -⟩ := PR_okS hP hs
  obtain ⟨⟨-, -, r3, -, r5, -⟩, -⟩ := hP.2.2.2.2.2.1 _ hs
  have h12 := hP.1.2.2.1
  unfold f_X7_classOf
  rw [ck_pos (by omega), Int.toNat_natCast, ck_pos (by omega)]
  show (if τ.1 8 (xst τ x) = 1 then _ else _) = _
  rw [r3]
  unfold mcl
  by_cases h1 : σC.1 8 (xst τ x) = 1
  · rw [if_pos h1, if_pos h1]; rfl
  · rw [if_neg h1, if_neg h1, ck_pos (by omega), ck_pos (by omega)]
    show some (τ.1 10 (xst τ x)) = _
    rw [r5]
    congr 1
    omega
theorem g_isRow {o : Nat} {σC τ : Mm} (h : RF o σC τ) {x : Nat} (hx : (x : Int) < τ.1 0 29) : f_X7_isRow x τ = some (b01 (σC.1 8 (xst τ x) = 1)) := by
  obtain ⟨hP, ⟨-, -, s8, -⟩, -, hxx, -⟩ := h
  obtain ⟨-, x2, x3, -⟩ := hxx x hx
  have hs : ((xst τ x : Nat) : Int) < σC.1 1 2 := by unfold xst; omega
  obtain ⟨⟨-, -, r3, -⟩, -⟩ := hP.2.2.2.2.2.1 _ hs
  have h12 := hP.1.2.2.1
  unfold f_X7_isRow
  rw [ck_pos (by omega), Int.toNat_natCast, ck_pos (by omega)]
  show (if τ.1 8 (xst τ x) = 1 then _ else _) = _
  rw [r3]
  by_cases h1 : σC.1 8 (xst τ x) = 1
  · rw [if_pos h1, b01_t h1]
  · rw [if_neg h1, b01_f h1]
/-! a new NAME -/
def nbL (o : Nat) (σ : Mm) (s : Nat) (x : Int64) (lo hi : Nat) : Mm := (σ.1, fun k i => if k = o + 4 ∧ (lo ≤ i ∧ i < hi) ∧ blw σ (mcl σ s) i = true then σ.2 k i ||| x else σ.2 k i)
theorem nbL_st {o : Nat} {σ : Mm} {s lo hi : Nat} {x : Int64} (h : lo < hi) (hb : blw σ (mcl σ s) lo = true) : nbL o (stL σ (o + 4) lo (σ.2 (o + 4) lo ||| x)) s x (lo + 1) hi = nbL o σ s x lo hi := by
  refine Prod.ext rfl ?_
  funext k i
  show (if k = o + 4 ∧ (lo + 1 ≤ i ∧ i < hi) ∧ blw σ (mcl σ s) i = true then (stL σ (o + 4) lo (σ.2 (o + 4) lo ||| x)).2 k i ||| x else (stL σ (o + 4) lo (σ.2 (o + 4) lo ||| x)).2 k i) = if k = o + 4 ∧ (lo ≤ i ∧ i < hi) ∧ blw σ (mcl σ s) i = true then σ.2 k i ||| x else σ.2 k i
  rw [stL_2]
  by_cases hk : k = o + 4 ∧ i = lo
  · rw [if_neg (by omega), if_pos hk, hk.1, hk.2, if_pos ⟨rfl, by omega, hb⟩]
  · rw [if_neg hk]
    by_cases hz : k = o + 4 ∧ (lo ≤ i ∧ i < hi) ∧ blw σ (mcl σ s) i = true
    · rw [if_pos hz, if_pos ⟨hz.1, by omega, hz.2.2⟩]
    · rw [if_neg hz, if_neg (fun z => hz ⟨z.1, by omega, z.2.2⟩)]
theorem nbL_sk {o : Nat} {σ : Mm} {s lo hi : Nat} {x : Int64} (hb : ¬ blw σ (mcl σ s) lo = true) : nbL o σ s x (lo + 1) hi = nbL o σ s x lo hi := by
  refine Prod.ext rfl ?_
  funext k i
  show (if k = o + 4 ∧ (lo + 1 ≤ i ∧ i < hi) ∧ blw σ (mcl σ s) i = true then σ.2 k i ||| x else σ.2 k i) = if k = o + 4 ∧ (lo ≤ i ∧ i < hi) ∧ blw σ (mcl σ s) i = true then σ.2 k i ||| x else σ.2 k i
  by_cases hz : k = o + 4 ∧ (lo ≤ i ∧ i < hi) ∧ blw σ (mcl σ s) i = true
  · have : i ≠ lo := fun e => hb (e ▸ hz.2.2)
    rw [if_pos hz, if_pos ⟨hz.1, by omega, hz.2.2⟩]
  · rw [if_neg hz, if_neg (fun z => hz ⟨z.1, by omega, z.2.2⟩)]
theorem nbL_0 {o : Nat} {σ : Mm} {s lo : Nat} {x : Int64} : nbL o σ s x lo lo = σ := by
  refine Prod.ext rfl ?_
  funext k i
  show (if k = o + 4 ∧ (lo ≤ i ∧ i < lo) ∧ blw σ (mcl σ s) i = true then σ.2 k i ||| x else σ.2 k i) = σ.2 k i
  rw [if_neg (by omega)]
theorem e_nameFor97 {o s : Nat} {x : Int64} {C : Nat} (hC10 : C ≤ 10) : ∀ (k f c : Nat) (σ : Mm), σ.1 1 0 = C → f_X3_madeClass s σ = some ((mcl σ s : Nat) : Int) → mcl σ s < C → c + k = C → k < f → f_X0_nameFor_97 o f s x c σ = some (x, nbL o σ s x c C) := by
  intro k
  induction k with
  | zero =>
    intro f c σ h0 h1 h2 hc hf
    obtain ⟨f, rfl⟩ : ∃ g, f = g + 1 := ⟨f - 1, by omega⟩
    obtain rfl : c = C := by omega
    rw [f_X0_nameFor_97, if_pos (by omega), nbL_0]
  | succ k ih =>
    intro f c σ h0 h1 h2 hc hf
    obtain ⟨f, rfl⟩ : ∃ g, f = g + 1 := ⟨f - 1, by omega⟩
    rw [f_X0_nameFor_97, if_neg (by omega), h1, bind_s, e_liesBelow (by omega) (by omega), bind_s]
    have cc : (c : Int) + 1 = ((c + 1 : Nat) : Int) := by omega
    by_cases hb : blw σ (mcl σ s) c = true
    · rw [b01_t hb, if_neg (by omega), ck_pos (by omega), ck_pos (by omega), bind_s, ck_pos (by omega), Int.toNat_natCast, cc, ih f (c + 1) (stL σ (o + 4) c (σ.2 (o + 4) c ||| x)) h0 (by exact h1) (by exact h2) (by omega) (by omega), nbL_st (by omega) hb]
    · rw [b01_f hb, if_pos rfl, ck_pos (by omega), cc, ih f (c + 1) σ h0 h1 h2 (by omega) (by omega), nbL_sk hb]
theorem e_nameFor45 {o s m : Nat} (hm : m < 60) {x : Int64} : ∀ (k f v : Nat) (σ : Mm), v + k = 5 → k < f → f_X0_nameFor_45 o f s m x v σ = f_X0_nameFor_45 o (f - k) s m x 5 (zL σ (o + 2) (5 * m + v) (5 * m + 5)) := by
  intro k
  induction k with
  | zero =>
    intro f v σ hv hf
    obtain rfl : v = 5 := by omega
    rw [zL_0]; rfl
  | succ k ih =>
    intro f v σ hv hf
    obtain ⟨f, rfl⟩ : ∃ g, f = g + 1 := ⟨f - 1, by omega⟩
    rw [f_X0_nameFor_45, if_neg (by omega), ck_pos (by omega), ck_pos (by omega), show ((v : Int) + 1) = ((v + 1 : Nat) : Int) by omega, ih f (v + 1) _ (by omega) (by omega), show Int.toNat ((m : Int) * 5 + v) = 5 * m + v by omega, show 5 * m + (v + 1) = 5 * m + v + 1 by omega, zL_st (by omega), show f + 1 - (k + 1) = f - k by omega]
theorem g_newName45 {n : Nat} (hn : n < 60) {q : Int} (hq : inR (q + 1)) : ∀ (k f v : Nat) (σ : Mm), σ.1 0 29 = q → v + k = 5 → k < f → f_X7_newName_45 f n v σ = some ((n : Int), stI (stI (zL σ 19 (5 * n + v) (5 * n + 5)) 0 29 (q + 1)) 0 22 1) := by
  intro k
  induction k with
  | zero =>
    intro f v σ hs hv hf
    obtain ⟨f, rfl⟩ : ∃ g, f = g + 1 := ⟨f - 1, by omega⟩
    obtain rfl : v = 5 := by omega
    rw [f_X7_newName_45, if_pos (by omega), zL_0, hs, ck_pos hq]
  | succ k ih =>
    intro f v σ hs hv hf
    obtain ⟨f, rfl⟩ : ∃ g, f = g + 1 := ⟨f - 1, by omega⟩
    rw [f_X7_newName_45, if_neg (by omega), ck_pos (by omega), ck_pos (by omega), show ((v : Int) + 1) = ((v + 1 : Nat) : Int) by omega, ih f (v + 1) (stL σ 19 (Int.toNat (5 * (n : Int) + v)) 0) hs (by omega) (by omega), show Int.toNat (5 * (n : Int) + v) = 5 * n + v by omega, show 5 * n + (v + 1) = 5 * n + v + 1 by omega, zL_st (by omega)]
def NmM (τ τ' : Mm) (x : Nat) (s n : Int) : Prop := (τ'.1 0 29 = x + 1 ∧ τ'.1 0 22 = 1 ∧ τ'.1 17 x = s ∧ τ'.1 18 x = n) ∧ (∀ k i, ¬ ((k = 0 ∧ (i = 29 ∨ i = 22)) ∨ ((k = 17 ∨ k = 18) ∧ i = x)) → τ'.1 k i = τ.1 k i) ∧ (∀ v, v < 5 → τ'.2 19 (5 * x + v) = 0) ∧ ∀ k i, ¬ (k = 19 ∧ 5 * x ≤ i ∧ i < 5 * x + 5) → τ'.2 k i = τ.2 k i
def NmC (o : Nat) (σ σ' : Mm) (x s n : Nat) : Prop := (σ'.1 (o + 9) 3 = x + 1 ∧ σ'.1 (o + 12) x = s ∧ σ'.1 (o + 13) x = n) ∧ (∀ k i, ¬ ((k = o + 9 ∧ i = 3) ∨ ((k = o + 12 ∨ k = o + 13) ∧ i = x)) → σ'.1 k i = σ.1 k i) ∧ (∀ v, v < 5 → σ'.2 (o + 2) (5 * x + v) = 0) ∧ (σ'.2 o 6 = if σ.1 8 s = 1 then σ.2 o 6 ||| lShl 1 x else σ.2 o 6) ∧ (∀ c : Nat, (c : Int) < σ.1 1 0 → σ'.2 (o + 4) c = if blw σ (mcl σ s) c = true then σ.2 (o + 4) c ||| lShl 1 x else σ.2 (o + 4) c) ∧ ∀ k i, ¬ ((k = o + 2 ∧ 5 * x ≤ i ∧ i < 5 * x + 5) ∨ (k = o ∧ i = 6) ∨ k = o + 4) → σ'.2 k i = σ.2 k i
theorem g_newName_new {τ : Mm} {x n s : Nat} (hn : τ.1 0 29 = x) (h60 : x < 60) (hw : f_X7_nameOf s n τ = some (x : Int)) : ∃ τ', f_X7_newName n s τ = some ((x : Int), τ') ∧ NmM τ τ' x s n := by
  unfold f_X7_newName
  rw [hw, bind_s, if_neg (by omega), hn, if_pos rfl, ck_pos (by omega), ck_pos (by omega), Int.toNat_natCast]
  have e4 := g_newName45 h60 (q := (x : Int)) (by omega) 5 2000 0 (stI (stI τ 17 x s) 18 x n) (by rw [stI_1, if_neg (by omega), stI_1, if_neg (by omega), hn]) (by omega) (by omega)
  rw [show ((0 : Nat) : Int) = 0 from rfl] at e4
  rw [e4]
  refine ⟨_, rfl, ⟨?_, ?_, ?_, ?_⟩, fun k i hk => ?_, fun v hv => ?_, fun k i hk => ?_⟩
  · rw [stI_1, if_neg (by omega), stI_1, if_pos ⟨rfl, rfl⟩]
  · rw [stI_1, if_pos ⟨rfl, rfl⟩]
  · rw [stI_1, if_neg (by omega), stI_1, if_neg (by omega)]
    show (stI (stI τ 17 x s) 18 x n).1 17 x = _
    rw [stI_1, if_neg (by omega), stI_1, if_pos ⟨rfl, rfl⟩]
  · rw [stI_1, if_neg (by omega), stI_1, if_neg (by omega)]
    show (stI (stI τ 17 x s) 18 x n).1 18 x = _
    rw [stI_1, if_pos ⟨rfl, rfl⟩]
  · rw [stI_1, if_neg (by omega), stI_1, if_neg (by omega)]
    show (stI (stI τ 17 x s) 18 x n).1 k i = _
    rw [stI_1, if_neg (by omega), stI_1, if_neg (by omega)]
  · show (if 19 = 19 ∧ 5 * x + 0 ≤ 5 * x + v ∧ 5 * x + v < 5 * x + 5 then (0 : Int64) else _) = 0
    rw [if_pos (by omega)]
  · show (if k = 19 ∧ 5 * x + 0 ≤ i ∧ i < 5 * x + 5 then (0 : Int64) else _) = _
    rw [if_neg (by omega)]; rfl
theorem g_newName_full {τ : Mm} {n s : Int} (hw : f_X7_nameOf s n τ = some 60) : f_X7_newName n s τ = some (0, stI τ 0 23 1) := by
  unfold f_X7_newName
  rw [hw, bind_s, if_pos rfl]
theorem g_newName_old {τ : Mm} {x : Nat} {n s : Int} (hn : (x : Int) < τ.1 0 29) (h60 : τ.1 0 29 ≤ 60) (hw : f_X7_nameOf s n τ = some (x : Int)) : f_X7_newName n s τ = some ((x : Int), τ) := by
  unfold f_X7_newName
  rw [hw, bind_s, if_neg (by omega), if_neg (by omega)]
theorem e_nameFor_full {o : Nat} {σ : Mm} {n s : Int} (hn : σ.1 (o + 9) 3 = 60) (hw : f_X5_nameWith o n s σ = some (-1)) : f_X0_nameFor o n s σ = some (0, stI σ (o + 9) 4 1) := by
  unfold f_X0_nameFor
  rw [hw, bind_s, if_pos (by omega)]
  unfold f_X5_addName
  rw [if_neg (by omega), bind_s]
  show (if 0 ≤ ((-1 : Int)) then _ else _) = _
  rw [if_neg (by omega)]
theorem e_nameFor_old {o : Nat} {σ : Mm} {x : Nat} {n s : Int} (hw : f_X5_nameWith o n s σ = some (x : Int)) : f_X0_nameFor o n s σ = some (lShl 1 x, σ) := by
  unfold f_X0_nameFor
  rw [hw, bind_s, if_neg (by omega)]
theorem e_nameFor_new {o : Nat} (ho : o = 15 ∨ o = 29) {σ τ : Mm} (hP : PR σ τ) {x n s : Nat} (hn : σ.1 (o + 9) 3 = x) (h60 : x < 60) (hs : (s : Int) < σ.1 1 2) (hk : σ.1 8 s ≤ 1) (hw : f_X5_nameWith o n s σ = some (-1)) : ∃ σ', f_X0_nameFor o n s σ = some (lShl 1 x, σ') ∧ NmC o σ σ' x s n := by
  have h15 : 15 ≤ o := by rcases ho with rfl | rfl <;> decide
  have h12 := hP.1.2.2.1
  have h10 := hP.1.1
  have hmc := mcl_lt hP hs hk
  have hmk := e_madeClass hP hs hk
  unfold f_X0_nameFor
  rw [hw, bind_s, if_pos (by omega)]
  unfold f_X5_addName
  have e1 : (stI σ (o + 12) x s).1 (o + 9) 3 = x := by rw [stI_1, if_neg (by omega), hn]
  have e2 : ∀ z, (stI (stI σ (o + 12) x s) (o + 13) x z).1 (o + 9) 3 = x := fun z => by rw [stI_1, if_neg (by omega), e1]
  rw [hn, if_pos (by omega), ck_pos (by omega), Int.toNat_natCast, e1, ck_pos (by omega), bind_s, Int.toNat_natCast, e2, ck_pos (by omega)]
  have e3 : ∀ σ : Mm, (stI σ (o + 9) 3 ((x : Int) + 1)).1 (o + 9) 3 = (x : Int) + 1 := fun σ => by rw [stI_1, if_pos ⟨rfl, rfl⟩]
  rw [e3, ck_pos (by omega), bind_s]
  show ∃ σ', (if 0 ≤ ((x : Int) + 1 - 1) then f_X0_nameFor_45 o 2000 s ((x : Int) + 1 - 1) (lShl 1 ((x : Int) + 1 - 1)) 0 _ else _) = some _ ∧ _
  rw [if_pos (by omega), show ((x : Int) + 1 - 1) = x by omega]
  have e4 := e_nameFor45 (o := o) (s := s) h60 (x := lShl 1 x) 5 2000 0 (stI (stI (stI σ (o + 12) x s) (o + 13) x n) (o + 9) 3 ((x : Int) + 1)) (by omega) (by omega)
  rw [show ((0 : Nat) : Int) = 0 from rfl] at e4
  rw [e4]
  generalize hσ1 : zL (stI (stI (stI σ (o + 12) x s) (o + 13) x n) (o + 9) 3 ((x : Int) + 1)) (o + 2) (5 * x + 0) (5 * x + 5) = σ1
  have i1 : ∀ k i, ¬ ((k = o + 9 ∧ i = 3) ∨ ((k = o + 12 ∨ k = o + 13) ∧ i = x)) → σ1.1 k i = σ.1 k i := fun k i hk => by
    rw [← hσ1]
    show (stI (stI (stI σ (o + 12) x s) (o + 13) x n) (o + 9) 3 ((x : Int) + 1)).1 k i = σ.1 k i
    rw [stI_1, if_neg (by omega), stI_1, if_neg (by omega), stI_1, if_neg (by omega)]
  have i2 : σ1.1 (o + 9) 3 = x + 1 := by rw [← hσ1]; exact e3 _
  have i3 : σ1.1 (o + 12) x = s := by
    rw [← hσ1]
    show (stI (stI (stI σ (o + 12) x s) (o + 13) x n) (o + 9) 3 ((x : Int) + 1)).1 (o + 12) x = s
    rw [stI_1, if_neg (by omega), stI_1, if_neg (by omega), stI_1, if_pos ⟨rfl, rfl⟩]
  have i4 : σ1.1 (o + 13) x = n := by
    rw [← hσ1]
    show (stI (stI (stI σ (o + 12) x s) (o + 13) x n) (o + 9) 3 ((x : Int) + 1)).1 (o + 13) x = n
    rw [stI_1, if_neg (by omega), stI_1, if_pos ⟨rfl, rfl⟩]
  have j1 : ∀ v, v < 5 → σ1.2 (o + 2) (5 * x + v) = 0 := fun v hv => by
    rw [← hσ1]
    show (if o + 2 = o + 2 ∧ 5 * x + 0 ≤ 5 * x + v ∧ 5 * x + v < 5 * x + 5 then (0 : Int64) else _) = 0
    rw [if_pos (by omega)]
  have j2 : ∀ k i, ¬ (k = o + 2 ∧ 5 * x ≤ i ∧ i < 5 * x + 5) → σ1.2 k i = σ.2 k i := fun k i hk => by
    rw [← hσ1]
    show (if k = o + 2 ∧ 5 * x + 0 ≤ i ∧ i < 5 * x + 5 then (0 : Int64) else _) = _
    rw [if_neg (by omega)]; rfl
  have f2 : σ1.1 2 = σ.1 2 := by funext i; exact i1 2 i (by omega)
  have f8 : σ1.1 8 = σ.1 8 := by funext i; exact i1 8 i (by omega)
  have f10 : σ1.1 10 = σ.1 10 := by funext i; exact i1 10 i (by omega)
  have f1 : σ1.1 1 0 = σ.1 1 0 := i1 1 0 (by omega)
  have mce : mcl σ1 s = mcl σ s := by unfold mcl; rw [f8, f10]
  have bwe : ∀ a b, blw σ1 a b = blw σ a b := fun a b => by unfold blw; rw [f2]
  have mke : ∀ σ2 : Mm, σ2.1 = σ1.1 → f_X3_madeClass s σ2 = some ((mcl σ2 s : Nat) : Int) := fun σ2 h2 => by
    have : mcl σ2 s = mcl σ s := by unfold mcl; rw [h2, f8, f10]
    rw [this, ← hmk]
    unfold f_X3_madeClass
    rw [h2, f8, f10]
  show ∃ σ', f_X0_nameFor_45 o 1995 s x (lShl 1 x) 5 σ1 = _ ∧ _
  have unf : f_X0_nameFor_45 o 1995 s x (lShl 1 x) 5 σ1 = (if (σ1.1 8 s) = 1 then f_X0_nameFor_97 o 2000 s (lShl 1 x) 0 (stL σ1 o 6 ((σ1.2 o 6) ||| (lShl 1 x))) else f_X0_nameFor_97 o 2000 s (lShl 1 x) 0 σ1) := by
    rw [f_X0_nameFor_45, if_pos (by omega), ck_pos (by omega), Int.toNat_natCast]
  have fin : ∀ σ2 : Mm, σ2.1 = σ1.1 → f_X0_nameFor_97 o 2000 s (lShl 1 x) 0 σ2 = some (lShl 1 x, nbL o σ2 s (lShl 1 x) 0 (Int.toNat (σ.1 1 0))) := fun σ2 h2 => by
    have hm2 : mcl σ2 s = mcl σ s := by unfold mcl; rw [h2, f8, f10]
    exact e_nameFor97 (by omega) (Int.toNat (σ.1 1 0)) 2000 0 σ2 (by rw [h2, f1]; omega) (mke σ2 h2) (by rw [hm2]; omega) (by omega) (by omega)
  have done : ∀ σ2 : Mm, σ2.1 = σ1.1 → (∀ k i, ¬ (k = o ∧ i = 6) → σ2.2 k i = σ1.2 k i) → (σ2.2 o 6 = if σ.1 8 s = 1 then σ.2 o 6 ||| lShl 1 x else σ.2 o 6) → NmC o σ (nbL o σ2 s (lShl 1 x) 0 (Int.toNat (σ.1 1 0))) x s n := fun σ2 h2 h3 h4 => by
    have hm2 : mcl σ2 s = mcl σ s := by unfold mcl; rw [h2, f8, f10]
    have hb2 : ∀ a b, blw σ2 a b = blw σ a b := fun a b => by unfold blw; rw [h2, f2]
    refine ⟨⟨?_, ?_, ?_⟩, fun k i hk => ?_, fun v hv => ?_, ?_, fun c hc => ?_, fun k i hk => ?_⟩
    · show σ2.1 _ _ = _; rw [h2]; exact i2
    · show σ2.1 _ _ = _; rw [h2]; exact i3
    · show σ2.1 _ _ = _; rw [h2]; exact i4
    · show σ2.1 _ _ = _; rw [h2]; exact i1 k i hk
    · show (if o + 2 = o + 4 ∧ _ then _ else σ2.2 (o + 2) (5 * x + v)) = 0
      rw [if_neg (by omega), h3 _ _ (by omega)]; exact j1 v hv
    · show (if o = o + 4 ∧ _ then _ else σ2.2 o 6) = _
      rw [if_neg (by omega)]; exact h4
    · show (if o + 4 = o + 4 ∧ (0 ≤ c ∧ c < Int.toNat (σ.1 1 0)) ∧ blw σ2 (mcl σ2 s) c = true then σ2.2 (o + 4) c ||| lShl 1 x else σ2.2 (o + 4) c) = _
      rw [h3 _ _ (by omega), j2 _ _ (by omega), hm2, hb2]
      by_cases hb : blw σ (mcl σ s) c = true
      · rw [if_pos ⟨rfl, by omega, hb⟩, if_pos hb]
      · rw [if_neg (fun z => hb z.2.2), if_neg hb]
    · show (if k = o + 4 ∧ _ then _ else σ2.2 k i) = _
      rw [if_neg (by omega), h3 _ _ (by omega), j2 _ _ (by omega)]
  rw [unf, f8]
  by_cases h1 : σ.1 8 s = 1
  · rw [if_pos h1, fin (stL σ1 o 6 ((σ1.2 o 6) ||| (lShl 1 x))) rfl]
    refine ⟨_, rfl, done _ rfl (fun k i hk => ?_) ?_⟩
    · rw [stL_2, if_neg hk]
    · rw [stL_2, if_pos ⟨rfl, rfl⟩, if_pos h1, j2 _ _ (by omega)]
  · rw [if_neg h1, fin _ rfl]
    exact ⟨_, rfl, done _ rfl (fun _ _ _ => rfl) (by rw [if_neg h1, j2 _ _ (by omega)])⟩
