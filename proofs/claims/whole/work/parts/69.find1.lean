/-! THE FINDING: what the two share while it goes on -/
/-- the CLASS of what a STEP makes -/
def mcl (σC : Mm) (s : Nat) : Nat := if σC.1 8 s = 1 then 0 else Int.toNat (σC.1 10 s)
/-- the STEP of a NAME, in the reference's row -/
def xst (τ : Mm) (x : Nat) : Nat := Int.toNat (τ.1 17 x)
def RFs (o : Nat) (σC τ : Mm) : Prop := (σC.1 (o + 9) 2 = τ.1 0 24 ∧ σC.1 (o + 9) 3 = τ.1 0 29 ∧ σC.1 (o + 9) 0 = τ.1 0 18 ∧ σC.1 (o + 9) 1 = τ.1 0 19 ∧ σC.1 o 7 = τ.1 0 22 ∧ σC.1 o 8 = τ.1 0 21) ∧ (0 ≤ τ.1 0 24 ∧ τ.1 0 24 ≤ 80) ∧ (0 ≤ τ.1 0 29 ∧ τ.1 0 29 ≤ 60) ∧ (0 ≤ τ.1 0 18 ∧ τ.1 0 18 ≤ 2) ∧ (0 ≤ τ.1 0 19 ∧ τ.1 0 19 ≤ 2) ∧ (τ.1 0 22 = 0 ∨ τ.1 0 22 = 1)
def RFn (o : Nat) (σC τ : Mm) : Prop := ∀ n : Nat, (n : Int) < τ.1 0 24 → (σC.1 (o + 10) n = τ.1 13 n ∧ σC.1 (o + 11) n = (τ.1 14 n + 1) * 256 + (τ.1 15 n + 1)) ∧ (0 ≤ τ.1 13 n ∧ τ.1 13 n < σC.1 1 1) ∧ (-1 ≤ τ.1 14 n ∧ τ.1 14 n ≤ 189) ∧ (-1 ≤ τ.1 15 n ∧ τ.1 15 n ≤ 189) ∧ (τ.1 0 19 = 0 → τ.1 14 n = -1) ∧ (τ.1 0 19 < 2 → τ.1 15 n = -1)
def RFx (o : Nat) (σC τ : Mm) : Prop := ∀ x : Nat, (x : Int) < τ.1 0 29 → (σC.1 (o + 12) x = τ.1 17 x ∧ σC.1 (o + 13) x = τ.1 18 x) ∧ (0 ≤ τ.1 17 x ∧ τ.1 17 x < σC.1 1 2) ∧ σC.1 8 (xst τ x) ≤ 1 ∧ (0 ≤ τ.1 18 x ∧ τ.1 18 x < τ.1 0 24) ∧ σC.1 13 (xst τ x) = τ.1 13 (Int.toNat (τ.1 18 x))
def RFh (o : Nat) (σC τ : Mm) : Prop := ∀ n v : Nat, (n : Int) < τ.1 0 24 → v < 8 → σC.2 (o + 1) (8 * n + v) = τ.2 16 (8 * n + v) ∧ ∀ i, lb (τ.2 16 (8 * n + v)) i = true → (i : Int) < τ.1 0 29
def RFi (o : Nat) (σC τ : Mm) : Prop := ∀ x f : Nat, (x : Int) < τ.1 0 29 → f < 5 → σC.2 (o + 2) (5 * x + f) = τ.2 19 (5 * x + f) ∧ ∀ i, lb (τ.2 19 (5 * x + f)) i = true → (i : Int) < τ.1 0 29
def RFg (o : Nat) (σC τ : Mm) : Prop := ∀ g : Nat, g < 4 → σC.2 (o + 3) g = τ.2 20 g ∧ ∀ i, lb (τ.2 20 g) i = true → (i : Int) < τ.1 0 29
def RFb (o : Nat) (σC τ : Mm) : Prop := (∀ c i : Nat, (c : Int) < σC.1 1 0 → (lb (σC.2 (o + 4) c) i = true ↔ (i : Int) < τ.1 0 29 ∧ blw σC (mcl σC (xst τ i)) c = true)) ∧ ∀ i : Nat, lb (σC.2 o 6) i = true ↔ (i : Int) < τ.1 0 29 ∧ σC.1 8 (xst τ i) = 1
/-- no two NODES, no two NAMES are alike -/
def RFu (τ : Mm) : Prop := (∀ n n' : Nat, (n : Int) < τ.1 0 24 → (n' : Int) < τ.1 0 24 → τ.1 13 n = τ.1 13 n' → τ.1 14 n = τ.1 14 n' → τ.1 15 n = τ.1 15 n' → n = n') ∧ ∀ x x' : Nat, (x : Int) < τ.1 0 29 → (x' : Int) < τ.1 0 29 → τ.1 17 x = τ.1 17 x' → τ.1 18 x = τ.1 18 x' → x = x'
def RF (o : Nat) (σC τ : Mm) : Prop := PR σC τ ∧ RFs o σC τ ∧ RFn o σC τ ∧ RFx o σC τ ∧ RFh o σC τ ∧ RFi o σC τ ∧ RFg o σC τ ∧ RFb o σC τ ∧ RFu τ
/-! what does not change -/
def CF (o : Nat) (σ σ' : Mm) : Prop := ∀ k, k < o ∨ o + 13 < k → σ'.1 k = σ.1 k ∧ σ'.2 k = σ.2 k
def MF (τ τ' : Mm) : Prop := (∀ k, (1 ≤ k ∧ k ≤ 12) ∨ 21 ≤ k → τ'.1 k = τ.1 k ∧ τ'.2 k = τ.2 k) ∧ (∀ j, j ≠ 22 → j ≠ 23 → j ≠ 24 → j ≠ 29 → j ≠ 34 → j ≠ 35 → τ'.1 0 j = τ.1 0 j)
theorem CF.rf {o : Nat} {σ : Mm} : CF o σ σ := fun _ _ => ⟨rfl, rfl⟩
theorem CF.tr {o : Nat} {a b c : Mm} (h1 : CF o a b) (h2 : CF o b c) : CF o a c := fun k hk => ⟨(h2 k hk).1.trans (h1 k hk).1, (h2 k hk).2.trans (h1 k hk).2⟩
theorem MF.rf {τ : Mm} : MF τ τ := ⟨fun _ _ => ⟨rfl, rfl⟩, fun _ _ _ _ _ _ _ => rfl⟩
theorem MF.tr {a b c : Mm} (h1 : MF a b) (h2 : MF b c) : MF a c := ⟨fun k hk => ⟨(h2.1 k hk).1.trans (h1.1 k hk).1, (h2.1 k hk).2.trans (h1.1 k hk).2⟩, fun j a1 a2 a3 a4 a5 a6 => (h2.2 j a1 a2 a3 a4 a5 a6).trans (h1.2 j a1 a2 a3 a4 a5 a6)⟩
theorem PR_frame {o : Nat} (ho : o = 15 ∨ o = 29) {σC σC' τ τ' : Mm} (h : PR σC τ) (hC : CF o σC σC') (hM : MF τ τ') : PR σC' τ' :=
  PR_congr h (fun k _ k14 => (hC k (Or.inl (by omega))).1) (fun k k1 k12 => (hM.1 k (Or.inl ⟨k1, k12⟩)).1) (hM.2 0 (by decide) (by decide) (by decide) (by decide) (by decide) (by decide)) (hM.2 2 (by decide) (by decide) (by decide) (by decide) (by decide) (by decide)) (hM.2 7 (by decide) (by decide) (by decide) (by decide) (by decide) (by decide)) (hM.2 8 (by decide) (by decide) (by decide) (by decide) (by decide) (by decide))
/-! how much has been found -/
def popN (x : Int64) : Nat → Nat
  | 0 => 0
  | k + 1 => popN x k + if lb x k then 1 else 0
theorem popN_le {x y : Int64} (h : ∀ i, lb x i = true → lb y i = true) : ∀ k, popN x k ≤ popN y k
  | 0 => Nat.le_refl _
  | k + 1 => by
    have ih := popN_le h k
    show popN x k + _ ≤ popN y k + _
    cases hx : lb x k
    · simp; omega
    · rw [h k hx]; simp; omega
theorem popN_lt {x y : Int64} (h : ∀ i, lb x i = true → lb y i = true) {i : Nat} (hi : lb y i = true) (hn : lb x i = false) : ∀ k, i < k → popN x k < popN y k
  | 0, hk => absurd hk (by omega)
  | k + 1, hk => by
    show popN x k + _ < popN y k + _
    by_cases hik : i = k
    · subst hik
      have := popN_le h i
      rw [hi, hn]; simp; omega
    · have ih := popN_lt h hi hn k (by omega)
      cases hx : lb x k
      · simp; omega
      · rw [h k hx]; simp; omega
theorem popN_b (x : Int64) : ∀ k, popN x k ≤ k
  | 0 => Nat.le_refl _
  | k + 1 => by
    have := popN_b x k
    show popN x k + _ ≤ k + 1
    split <;> omega
def sumN (f : Nat → Nat) : Nat → Nat
  | 0 => 0
  | k + 1 => sumN f k + f k
theorem sumN_le {f g : Nat → Nat} : ∀ k, (∀ j, j < k → f j ≤ g j) → sumN f k ≤ sumN g k
  | 0, _ => Nat.le_refl _
  | k + 1, h => by
    have := sumN_le k (fun j hj => h j (by omega))
    have := h k (by omega)
    show sumN f k + f k ≤ sumN g k + g k
    omega
theorem sumN_lt {f g : Nat → Nat} {i : Nat} : ∀ k, i < k → (∀ j, j < k → f j ≤ g j) → f i < g i → sumN f k < sumN g k
  | 0, hi, _, _ => absurd hi (by omega)
  | k + 1, hi, h, hlt => by
    show sumN f k + f k < sumN g k + g k
    by_cases hik : i = k
    · subst hik
      have := sumN_le i (fun j hj => h j (by omega))
      omega
    · have := sumN_lt k (by omega) (fun j hj => h j (by omega)) hlt
      have := h k (by omega)
      omega
theorem sumN_eq {f g : Nat → Nat} : ∀ k, (∀ j, j < k → f j = g j) → sumN f k = sumN g k
  | 0, _ => rfl
  | k + 1, h => by
    show sumN f k + f k = sumN g k + g k
    rw [sumN_eq k (fun j hj => h j (by omega)), h k (by omega)]
theorem sumN_b {f : Nat → Nat} {b : Nat} : ∀ k, (∀ j, j < k → f j ≤ b) → sumN f k ≤ k * b
  | 0, _ => by simp [sumN]
  | k + 1, h => by
    have := sumN_b k (fun j hj => h j (by omega))
    have := h k (by omega)
    show sumN f k + f k ≤ (k + 1) * b
    rw [Nat.succ_mul]
    omega
def cH (τ : Mm) (j : Nat) : Nat := if (j : Int) < 8 * τ.1 0 24 then popN (τ.2 16 j) 64 else 0
def cI (τ : Mm) (j : Nat) : Nat := if (j : Int) < 5 * τ.1 0 29 then popN (τ.2 19 j) 64 else 0
def cG (τ : Mm) (j : Nat) : Nat := popN (τ.2 20 j) 64
def cnt (τ : Mm) : Nat := Int.toNat (τ.1 0 24) + Int.toNat (τ.1 0 29) + sumN (cH τ) 640 + sumN (cI τ) 300 + sumN (cG τ) 4
theorem cnt_b {τ : Mm} (h1 : τ.1 0 24 ≤ 80) (h2 : τ.1 0 29 ≤ 60) : cnt τ ≤ 61000 := by
  have a := sumN_b (f := cH τ) (b := 64) 640 (fun j _ => by
    have := popN_b (τ.2 16 j) 64
    unfold cH
    split <;> omega)
  have b := sumN_b (f := cI τ) (b := 64) 300 (fun j _ => by
    have := popN_b (τ.2 19 j) 64
    unfold cI
    split <;> omega)
  have c := sumN_b (f := cG τ) (b := 64) 4 (fun j _ => popN_b _ 64)
  unfold cnt
  omega
/-! growth -/
def Same (τ τ' : Mm) : Prop := τ'.1 0 24 = τ.1 0 24 ∧ τ'.1 0 29 = τ.1 0 29 ∧ (∀ j : Nat, (j : Int) < 8 * τ.1 0 24 → τ'.2 16 j = τ.2 16 j) ∧ (∀ j : Nat, (j : Int) < 5 * τ.1 0 29 → τ'.2 19 j = τ.2 19 j) ∧ ∀ j : Nat, j < 4 → τ'.2 20 j = τ.2 20 j
def Mono (τ τ' : Mm) : Prop := MF τ τ' ∧ (τ.1 0 24 ≤ τ'.1 0 24 ∧ τ.1 0 29 ≤ τ'.1 0 29) ∧ (∀ n : Nat, (n : Int) < τ.1 0 24 → τ'.1 13 n = τ.1 13 n ∧ τ'.1 14 n = τ.1 14 n ∧ τ'.1 15 n = τ.1 15 n) ∧ (∀ x : Nat, (x : Int) < τ.1 0 29 → τ'.1 17 x = τ.1 17 x ∧ τ'.1 18 x = τ.1 18 x) ∧ (∀ j : Nat, (j : Int) < 8 * τ.1 0 24 → ∀ i, lb (τ.2 16 j) i = true → lb (τ'.2 16 j) i = true) ∧ (∀ j : Nat, (j : Int) < 5 * τ.1 0 29 → ∀ i, lb (τ.2 19 j) i = true → lb (τ'.2 19 j) i = true) ∧ ∀ j : Nat, j < 4 → ∀ i, lb (τ.2 20 j) i = true → lb (τ'.2 20 j) i = true
def Up (τ τ' : Mm) : Prop := Mono τ τ' ∧ ((τ'.1 0 22 = τ.1 0 22 ∧ Same τ τ') ∨ (τ'.1 0 22 = 1 ∧ cnt τ < cnt τ'))
theorem Same.rf {τ : Mm} : Same τ τ := ⟨rfl, rfl, fun _ _ => rfl, fun _ _ => rfl, fun _ _ => rfl⟩
theorem Same.tr {a b c : Mm} (h1 : Same a b) (h2 : Same b c) : Same a c := ⟨h2.1.trans h1.1, h2.2.1.trans h1.2.1, fun j hj => (h2.2.2.1 j (by rw [h1.1]; exact hj)).trans (h1.2.2.1 j hj), fun j hj => (h2.2.2.2.1 j (by rw [h1.2.1]; exact hj)).trans (h1.2.2.2.1 j hj), fun j hj => (h2.2.2.2.2 j hj).trans (h1.2.2.2.2 j hj)⟩
theorem Same_cnt {a b : Mm} (h : Same a b) : cnt b = cnt a := by
  obtain ⟨h1, h2, h3, h4, h5⟩ := h
  have e1 : sumN (cH b) 640 = sumN (cH a) 640 := sumN_eq _ (fun j _ => by
    unfold cH
    rw [h1]
    by_cases hj : (j : Int) < 8 * a.1 0 24
    · rw [if_pos hj, if_pos hj, h3 j hj]
    · rw [if_neg hj, if_neg hj])
  have e2 : sumN (cI b) 300 = sumN (cI a) 300 := sumN_eq _ (fun j _ => by
    unfold cI
    rw [h2]
    by_cases hj : (j : Int) < 5 * a.1 0 29
    · rw [if_pos hj, if_pos hj, h4 j hj]
    · rw [if_neg hj, if_neg hj])
  have e3 : sumN (cG b) 4 = sumN (cG a) 4 := sumN_eq _ (fun j hj => by unfold cG; rw [h5 j hj])
  unfold cnt
  rw [h1, h2, e1, e2, e3]
theorem Mono.rf {τ : Mm} : Mono τ τ := ⟨MF.rf, ⟨Int.le_refl _, Int.le_refl _⟩, fun _ _ => ⟨rfl, rfl, rfl⟩, fun _ _ => ⟨rfl, rfl⟩, fun _ _ _ h => h, fun _ _ _ h => h, fun _ _ _ h => h⟩
theorem Mono.tr {a b c : Mm} (h1 : Mono a b) (h2 : Mono b c) : Mono a c := by
  obtain ⟨m1, ⟨n1, x1⟩, p1, q1, r1, s1, t1⟩ := h1
  obtain ⟨m2, ⟨n2, x2⟩, p2, q2, r2, s2, t2⟩ := h2
  refine ⟨m1.tr m2, ⟨by omega, by omega⟩, fun n hn => ?_, fun x hx => ?_, fun j hj i hi => r2 j (by omega) i (r1 j hj i hi), fun j hj i hi => s2 j (by omega) i (s1 j hj i hi), fun j hj i hi => t2 j hj i (t1 j hj i hi)⟩
  · obtain ⟨u1, u2, u3⟩ := p1 n hn
    obtain ⟨v1, v2, v3⟩ := p2 n (by omega)
    exact ⟨v1.trans u1, v2.trans u2, v3.trans u3⟩
  · obtain ⟨u1, u2⟩ := q1 x hx
    obtain ⟨v1, v2⟩ := q2 x (by omega)
    exact ⟨v1.trans u1, v2.trans u2⟩
theorem Up.rf {τ : Mm} : Up τ τ := ⟨Mono.rf, Or.inl ⟨rfl, Same.rf⟩⟩
theorem Up.tr {a b c : Mm} (h1 : Up a b) (h2 : Up b c) : Up a c := by
  refine ⟨h1.1.tr h2.1, ?_⟩
  rcases h1.2 with ⟨e1, s1⟩ | ⟨e1, s1⟩ <;> rcases h2.2 with ⟨e2, s2⟩ | ⟨e2, s2⟩
  · exact Or.inl ⟨e2.trans e1, s1.tr s2⟩
  · exact Or.inr ⟨e2, by rw [← Same_cnt s1]; exact s2⟩
  · exact Or.inr ⟨e2.trans e1, by rw [Same_cnt s2]; exact s1⟩
  · exact Or.inr ⟨e2, by omega⟩
/-- when nothing was new, all along the way nothing was -/
theorem Up.same {a b : Mm} (h : Up a b) (h0 : b.1 0 22 = 0) : a.1 0 22 = 0 ∧ Same a b := by
  rcases h.2 with ⟨e1, s1⟩ | ⟨e1, s1⟩
  · exact ⟨by omega, s1⟩
  · omega
