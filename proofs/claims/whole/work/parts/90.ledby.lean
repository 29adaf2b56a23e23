/-! the reference counts leaders -/
theorem ldP_LO {σ τ τ' : Mm} (h : LO τ τ') (j u : Nat) : ∀ q, ldP σ τ' j u q = ldP σ τ j u q
  | 0 => rfl
  | q + 1 => by
    show ldP σ τ' j u q + (if LedB σ τ' j (ln σ (mOf τ' j) q) u then 1 else 0) = ldP σ τ j u q + (if LedB σ τ j (ln σ (mOf τ j) q) u then 1 else 0)
    have : mOf τ' j = mOf τ j := by unfold mOf; rw [LO_row h (k := 13) (by decide)]
    rw [ldP_LO h j u q, this, LedB_LO h]
theorem ledBy_node {o : Nat} (ho : o = 15 ∨ o = 29) {σC τ : Mm} (h : RF o σC τ) {K t n : Nat} (hK : τ.1 0 24 = K) (ht : t < K) (hn : n < K) (k4 : Int → Int → Int → Mm → Option (Int × Mm)) : ∀ (k f p : Nat) (τ1 : Mm), LO τ τ1 → (0 < ldP σC τ n t p → τ1.1 0 36 = n) → (ldP σC τ n t p = 0 → 0 < ldN σC τ t n → τ1.1 0 36 = (lrN σC τ t n : Nat)) → p + k = lenOf σC τ n → k < f → ∃ τ', f_X7_ledBy_15 k4 f t ((ldN σC τ t n + ldP σC τ n t p : Nat) : Int) n p τ1 = k4 t ((ldN σC τ t (n + 1) : Nat) : Int) ((n + 1 : Nat) : Int) τ' ∧ LO τ τ' ∧ (0 < ldN σC τ t (n + 1) → τ'.1 0 36 = (lrN σC τ t (n + 1) : Nat)) := by
  have s7 := h.2.1.2.1
  have h11 := h.1.1.2.1
  have h12 := h.1.1.2.2.1
  obtain ⟨l1, l2, l3, l4⟩ := lenOf_le h (k := n) (by omega)
  intro k
  induction k with
  | zero =>
    intro f p τ1 hL hz1 hz2 hp hf
    obtain ⟨f, rfl⟩ : ∃ g, f = g + 1 := ⟨f - 1, by omega⟩
    obtain rfl : p = lenOf σC τ n := by omega
    have e13 := LO_row hL (k := 13) (by decide)
    have e4 := LO_row hL (k := 4) (by decide)
    obtain ⟨-, -, q3⟩ := h.1.2.2.2.2.1 (mOf τ n) (by omega)
    refine ⟨τ1, ?_, hL, fun z => ?_⟩
    · rw [f_X7_ledBy_15, ck_pos (by omega), Int.toNat_natCast, e13, ← l3, ck_pos (by omega), Int.toNat_natCast, e4, (q3 l4).1, if_pos (by omega), ck_pos (by omega)]
      rfl
    · have z' : 0 < ldN σC τ t n + ldP σC τ n t (lenOf σC τ n) := z
      show τ1.1 0 36 = ((if 0 < ldP σC τ n t (lenOf σC τ n) then n else lrN σC τ t n : Nat) : Int)
      by_cases hq : 0 < ldP σC τ n t (lenOf σC τ n)
      · rw [if_pos hq]; exact hz1 hq
      · rw [if_neg hq]; exact hz2 (by omega) (by omega)
  | succ k ih =>
    intro f p τ1 hL hz1 hz2 hp hf
    obtain ⟨f, rfl⟩ : ∃ g, f = g + 1 := ⟨f - 1, by omega⟩
    have e13 := LO_row hL (k := 13) (by decide)
    have e4 := LO_row hL (k := 4) (by decide)
    have e5 := LO_row hL (k := 5) (by decide)
    have e8 := LO_row hL (k := 8) (by decide)
    obtain ⟨-, -, q3⟩ := h.1.2.2.2.2.1 (mOf τ n) (by omega)
    obtain ⟨w1, w2, w3, w4, w5, w6, w7⟩ := PR_ln h.1 l4 (p := p) (by omega)
    obtain ⟨⟨-, -, r3, -⟩, -⟩ := h.1.2.2.2.2.2.1 _ w1
    have cc : (p : Int) + 1 = ((p + 1 : Nat) : Int) := by omega
    have h1 := RF_LO ho h hL
    have a1 := ldN_le h t n (by omega)
    have a2 := ldP_le σC τ n t p
    have hstep : ldP σC τ n t (p + 1) = ldP σC τ n t p + if LedB σC τ n (ln σC (mOf τ n) p) t then 1 else 0 := rfl
    have lead : (σC.1 8 (ln σC (mOf τ n) p) = 9 ∨ σC.1 8 (ln σC (mOf τ n) p) = 10) → ∃ τ', f_X7_ledBy_74 (f_X7_ledBy_15 k4 f) t ((ldN σC τ t n + ldP σC τ n t p : Nat) : Int) n p ((ln σC (mOf τ n) p : Nat) : Int) τ1 = k4 t ((ldN σC τ t (n + 1) : Nat) : Int) ((n + 1 : Nat) : Int) τ' ∧ LO τ τ' ∧ (0 < ldN σC τ t (n + 1) → τ'.1 0 36 = (lrN σC τ t (n + 1) : Nat)) := fun hk => by
      obtain ⟨τ2, v1, v2, v3⟩ := g_isLed ho h1 (n := n) (t := t) (by rw [hL.1 0 24 (by decide)]; omega) (by rw [hL.1 0 24 (by decide)]; omega) w1 hk
      rw [LedB_LO hL] at v1
      unfold f_X7_ledBy_74
      rw [v1, bind_s]
      by_cases hB : LedB σC τ n (ln σC (mOf τ n) p) t = true
      · rw [hB, if_pos rfl] at hstep
        rw [b01_t hB]
        show ∃ τ', (if (1 : Int) = 0 then _ else _) = _ ∧ _
        rw [if_neg (by omega), ck_pos (by omega), ck_pos (by omega), cc, show ((ldN σC τ t n + ldP σC τ n t p : Nat) : Int) + 1 = ((ldN σC τ t n + ldP σC τ n t (p + 1) : Nat) : Int) by omega]
        exact ih f (p + 1) (stI τ2 0 36 n) ((hL.tr v2).tr LO_36) (fun _ => by rw [stI_1, if_pos ⟨rfl, rfl⟩]) (fun z => by omega) (by omega) (by omega)
      · have hB' : LedB σC τ n (ln σC (mOf τ n) p) t = false := by simpa using hB
        have hst' : ldP σC τ n t (p + 1) = ldP σC τ n t p := by rw [hstep, hB']; rfl
        rw [b01_f hB]
        show ∃ τ', (if (0 : Int) = 0 then _ else _) = _ ∧ _
        rw [if_pos rfl, ck_pos (by omega), cc, ← hst']
        exact ih f (p + 1) τ2 (hL.tr v2) (fun z => by rw [v3]; exact hz1 (by omega)) (fun z z2 => by rw [v3]; exact hz2 (by omega) z2) (by omega) (by omega)
    rw [f_X7_ledBy_15, ck_pos (by omega), Int.toNat_natCast, e13, ← l3, ck_pos (by omega), Int.toNat_natCast, e4, (q3 l4).1, if_neg (by omega), ck_pos (by omega), ck_pos (by omega), show Int.toNat (90 * ((mOf τ n : Nat) : Int) + p) = mOf τ n * 90 + p by omega, e5, w3, ck_pos (by omega), Int.toNat_natCast, e8, r3]
    by_cases hk9 : σC.1 8 (ln σC (mOf τ n) p) = 9
    · rw [if_pos hk9]; exact lead (Or.inl hk9)
    · rw [if_neg hk9, ck_pos (by omega)]
      by_cases hk10 : σC.1 8 (ln σC (mOf τ n) p) = 10
      · rw [if_pos hk10]; exact lead (Or.inr hk10)
      · have hB' : LedB σC τ n (ln σC (mOf τ n) p) t = false := LedB_off (by omega)
        have hst' : ldP σC τ n t (p + 1) = ldP σC τ n t p := by rw [hstep, hB']; rfl
        rw [if_neg hk10, ck_pos (by omega), cc, ← hst']
        exact ih f (p + 1) τ1 hL (fun z => hz1 (by omega)) (fun z z2 => hz2 (by omega) z2) (by omega) (by omega)
theorem g_ledBy {o : Nat} (ho : o = 15 ∨ o = 29) {σC τ : Mm} (h : RF o σC τ) {K t : Nat} (hK : τ.1 0 24 = K) (ht : t < K) : ∃ τ', f_X7_ledBy t τ = some (((ldN σC τ t K : Nat) : Int), τ') ∧ LO τ τ' ∧ (0 < ldN σC τ t K → τ'.1 0 36 = (lrN σC τ t K : Nat)) := by
  have s7 := h.2.1.2.1
  have key : ∀ (k f n : Nat) (τ1 : Mm), LO τ τ1 → (0 < ldN σC τ t n → τ1.1 0 36 = (lrN σC τ t n : Nat)) → n + k = K → k < f → ∃ τ', f_X7_ledBy_4 f t ((ldN σC τ t n : Nat) : Int) n τ1 = some (((ldN σC τ t K : Nat) : Int), τ') ∧ LO τ τ' ∧ (0 < ldN σC τ t K → τ'.1 0 36 = (lrN σC τ t K : Nat)) := by
    intro k
    induction k with
    | zero =>
      intro f n τ1 hL hz hn hf
      obtain ⟨f, rfl⟩ : ∃ g, f = g + 1 := ⟨f - 1, by omega⟩
      obtain rfl : n = K := by omega
      exact ⟨τ1, by rw [f_X7_ledBy_4, if_pos (by rw [hL.1 0 24 (by decide)]; omega)], hL, hz⟩
    | succ k ih =>
      intro f n τ1 hL hz hn hf
      obtain ⟨f, rfl⟩ : ∃ g, f = g + 1 := ⟨f - 1, by omega⟩
      obtain ⟨l1, -⟩ := lenOf_le h (k := n) (by omega)
      obtain ⟨τ2, r1, r2, r3⟩ := ledBy_node ho h hK ht (n := n) (by omega) (f_X7_ledBy_4 f) (lenOf σC τ n) 2000 0 τ1 hL (fun z => absurd z (by show ¬ 0 < 0; omega)) (fun _ z => hz z) (by omega) (by omega)
      rw [f_X7_ledBy_4, if_neg (by rw [hL.1 0 24 (by decide)]; omega)]
      have e0 : ((ldN σC τ t n + ldP σC τ n t 0 : Nat) : Int) = ((ldN σC τ t n : Nat) : Int) := rfl
      rw [e0, show ((0 : Nat) : Int) = 0 from rfl] at r1
      rw [r1]
      exact ih f (n + 1) τ2 r2 r3 (by omega) (by omega)
  exact key K 2000 0 τ LO.rf (fun z => absurd z (by show ¬ 0 < 0; omega)) (by omega) (by omega)
theorem ldN_LO {σ τ τ' : Mm} (h : LO τ τ') (u : Nat) : ∀ n, ldN σ τ' u n = ldN σ τ u n
  | 0 => rfl
  | n + 1 => by
    show ldN σ τ' u n + ldP σ τ' n u (lenOf σ τ' n) = ldN σ τ u n + ldP σ τ n u (lenOf σ τ n)
    have : lenOf σ τ' n = lenOf σ τ n := by unfold lenOf mOf; rw [LO_row h (k := 13) (by decide)]
    rw [ldN_LO h u n, this, ldP_LO h]
theorem lrN_LO {σ τ τ' : Mm} (h : LO τ τ') (u : Nat) : ∀ n, lrN σ τ' u n = lrN σ τ u n
  | 0 => rfl
  | n + 1 => by
    show (if 0 < ldP σ τ' n u (lenOf σ τ' n) then n else lrN σ τ' u n) = (if 0 < ldP σ τ n u (lenOf σ τ n) then n else lrN σ τ u n)
    have : lenOf σ τ' n = lenOf σ τ n := by unfold lenOf mOf; rw [LO_row h (k := 13) (by decide)]
    rw [lrN_LO h u n, this, ldP_LO h]
theorem onB_LO {σ τ τ' : Mm} (h : LO τ τ') (K : Nat) : ∀ f n, onB σ τ' K f n = onB σ τ K f n
  | 0, _ => rfl
  | f + 1, n => by
    show (if n = 0 then decide (ldN σ τ' 0 K = 0) else decide (ldN σ τ' n K = 1) && onB σ τ' K f (lrN σ τ' n K)) = (if n = 0 then decide (ldN σ τ 0 K = 0) else decide (ldN σ τ n K = 1) && onB σ τ K f (lrN σ τ n K))
    rw [ldN_LO h, ldN_LO h, lrN_LO h, onB_LO h K f]
theorem g_isOnce {o : Nat} (ho : o = 15 ∨ o = 29) {σC τ : Mm} (h : RF o σC τ) (hO : Org σC τ) {K t : Nat} (hK : τ.1 0 24 = K) (ht : t < K) : ∃ τ', f_X7_isOnce t τ = some (b01 (onB σC τ K (t + 1) t = true), τ') ∧ LO τ τ' := by
  have s7 := h.2.1.2.1
  have key : ∀ (n f k : Nat) (τ1 : Mm), LO τ τ1 → n < K → n + k ≤ K → n < f → ∃ τ', f_X7_isOnce_4 f n k τ1 = some (b01 (onB σC τ K (n + 1) n = true), τ') ∧ LO τ τ' := by
    intro n
    induction n using Nat.strongRecOn with
    | ind n ih =>
      intro f k τ1 hL hn hk hf
      obtain ⟨f, rfl⟩ : ∃ g, f = g + 1 := ⟨f - 1, by omega⟩
      have h1 := RF_LO ho h hL
      obtain ⟨τ2, r1, r2, r3⟩ := g_ledBy ho h1 (t := n) (by rw [hL.1 0 24 (by decide)]; exact hK) hn
      rw [ldN_LO hL, lrN_LO hL] at r3
      rw [ldN_LO hL] at r1
      rw [f_X7_isOnce_4, if_neg (by rw [hL.1 0 24 (by decide)]; omega), r1, bind_s]
      show ∃ τ', (if (n : Int) = 0 then (if ((ldN σC τ n K : Nat) : Int) = 0 then some (1, τ2) else some (0, τ2)) else (if ((ldN σC τ n K : Nat) : Int) = 1 then ck (inR ((k : Int) + 1)) (f_X7_isOnce_4 f (τ2.1 0 36) ((k : Int) + 1) τ2) else some (0, τ2))) = _ ∧ _
      by_cases e : n = 0
      · subst e
        rw [if_pos (by omega)]
        have eon : onB σC τ K (0 + 1) 0 = decide (ldN σC τ 0 K = 0) := rfl
        rw [eon]
        by_cases hz : ldN σC τ 0 K = 0
        · rw [if_pos (by omega), b01_t (decide_eq_true hz)]
          exact ⟨τ2, rfl, hL.tr r2⟩
        · rw [if_neg (by omega), b01_f (by rw [decide_eq_false hz]; simp)]
          exact ⟨τ2, rfl, hL.tr r2⟩
      · rw [if_neg (by omega)]
        have eon : onB σC τ K (n + 1) n = (decide (ldN σC τ n K = 1) && onB σC τ K n (lrN σC τ n K)) := by
          show (if n = 0 then _ else _) = _
          rw [if_neg e]
        by_cases hl1 : ldN σC τ n K = 1
        · have hlr := lr_lt h hO (by omega) hK hn hl1
          have hst := onB_st h hO hK (lrN σC τ n K) n (lrN σC τ n K + 1) (by omega) hlr (by omega)
          rw [if_pos (by omega), ck_pos (by omega), r3 (by omega), show (k : Int) + 1 = ((k + 1 : Nat) : Int) by omega]
          obtain ⟨τ', w1, w2⟩ := ih (lrN σC τ n K) hlr f (k + 1) τ2 (hL.tr r2) (by omega) (by omega) (by omega)
          refine ⟨τ', ?_, w2⟩
          rw [w1, eon, hst, decide_eq_true hl1, Bool.true_and]
        · rw [if_neg (by omega), eon, decide_eq_false hl1, Bool.false_and, b01_f (by simp)]
          exact ⟨τ2, rfl, hL.tr r2⟩
  exact key t 2000 0 τ LO.rf ht (by omega) (by omega)
