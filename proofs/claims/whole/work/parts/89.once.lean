/-! the class counts leaders -/
theorem LedB_prog {σ σ' τ : Mm} (hpr : ∀ k, 1 ≤ k → k ≤ 14 → σ'.1 k = σ.1 k) (k s t : Nat) : LedB σ' τ k s t = LedB σ τ k s t := by
  have e : LedY σ' τ k s t = LedY σ τ k s t := by
    funext y
    unfold LedY mnt mcl
    rw [hpr 5 (by omega) (by omega), hpr 8 (by omega) (by omega), hpr 10 (by omega) (by omega), hpr 11 (by omega) (by omega)]
  unfold LedB
  rw [e, hpr 8 (by omega) (by omega), hpr 11 (by omega) (by omega)]
theorem LedB_off {σ τ : Mm} {k s t : Nat} (h9 : ¬ (σ.1 8 s = 9 ∨ σ.1 8 s = 10)) : LedB σ τ k s t = false := by
  unfold LedB
  rw [if_neg (fun z => h9 (Or.inr z)), decide_eq_false (fun z => h9 (Or.inl z))]
  rfl
theorem ldP_prog {σ σ' τ : Mm} (hpr : ∀ k, 1 ≤ k → k ≤ 14 → σ'.1 k = σ.1 k) (j u : Nat) : ∀ q, ldP σ' τ j u q = ldP σ τ j u q
  | 0 => rfl
  | q + 1 => by
    show ldP σ' τ j u q + (if LedB σ' τ j (ln σ' (mOf τ j) q) u then 1 else 0) = ldP σ τ j u q + (if LedB σ τ j (ln σ (mOf τ j) q) u then 1 else 0)
    have : ln σ' (mOf τ j) q = ln σ (mOf τ j) q := by unfold ln; rw [hpr 7 (by omega) (by omega)]
    rw [ldP_prog hpr j u q, this, LedB_prog hpr]
theorem ldN_prog {σ σ' τ : Mm} (hpr : ∀ k, 1 ≤ k → k ≤ 14 → σ'.1 k = σ.1 k) (u : Nat) : ∀ n, ldN σ' τ u n = ldN σ τ u n
  | 0 => rfl
  | n + 1 => by
    show ldN σ' τ u n + ldP σ' τ n u (lenOf σ' τ n) = ldN σ τ u n + ldP σ τ n u (lenOf σ τ n)
    have : lenOf σ' τ n = lenOf σ τ n := by unfold lenOf; rw [hpr 6 (by omega) (by omega)]
    rw [ldN_prog hpr u n, this, ldP_prog hpr]
theorem lrN_prog {σ σ' τ : Mm} (hpr : ∀ k, 1 ≤ k → k ≤ 14 → σ'.1 k = σ.1 k) (u : Nat) : ∀ n, lrN σ' τ u n = lrN σ τ u n
  | 0 => rfl
  | n + 1 => by
    show (if 0 < ldP σ' τ n u (lenOf σ' τ n) then n else lrN σ' τ u n) = (if 0 < ldP σ τ n u (lenOf σ τ n) then n else lrN σ τ u n)
    have : lenOf σ' τ n = lenOf σ τ n := by unfold lenOf; rw [hpr 6 (by omega) (by omega)]
    rw [lrN_prog hpr u n, this, ldP_prog hpr]
theorem onB_prog {σ σ' τ : Mm} (hpr : ∀ k, 1 ≤ k → k ≤ 14 → σ'.1 k = σ.1 k) (K : Nat) : ∀ f n, onB σ' τ K f n = onB σ τ K f n
  | 0, _ => rfl
  | f + 1, n => by
    show (if n = 0 then decide (ldN σ' τ 0 K = 0) else decide (ldN σ' τ n K = 1) && onB σ' τ K f (lrN σ' τ n K)) = (if n = 0 then decide (ldN σ τ 0 K = 0) else decide (ldN σ τ n K = 1) && onB σ τ K f (lrN σ τ n K))
    rw [ldN_prog hpr, ldN_prog hpr, lrN_prog hpr, onB_prog hpr K f]
theorem count_aux {o K : Nat} (hK : K ≤ 80) {from' : Nat} : ∀ (k f t : Nat) (σ : Mm), σ.1 (o + 9) 2 = K → (∀ u, t ≤ u → u < K → 0 ≤ σ.1 (o + 5) u ∧ σ.1 (o + 5) u ≤ 10000) → t + k = K → k < f → ∃ σ', f_X0_countReached_2 o f from' t σ = some σ' ∧ CF8 o σ σ' ∧ σ'.2 = σ.2 ∧ σ'.1 (o + 7) = σ.1 (o + 7) ∧ ∀ u, u < K → (σ'.1 (o + 5) u = if t ≤ u ∧ rB o σ u = true then σ.1 (o + 5) u + 1 else σ.1 (o + 5) u) ∧ (σ'.1 (o + 6) u = if t ≤ u ∧ rB o σ u = true then (from' : Int) else σ.1 (o + 6) u) := by
  intro k
  induction k with
  | zero =>
    intro f t σ h2 hb ht hf
    obtain ⟨f, rfl⟩ : ∃ g, f = g + 1 := ⟨f - 1, by omega⟩
    rw [f_X0_countReached_2, if_pos (by omega)]
    exact ⟨σ, rfl, CF8.rf, rfl, rfl, fun u hu => ⟨by rw [if_neg (by omega)], by rw [if_neg (by omega)]⟩⟩
  | succ k ih =>
    intro f t σ h2 hb ht hf
    obtain ⟨f, rfl⟩ : ∃ g, f = g + 1 := ⟨f - 1, by omega⟩
    have cc : (t : Int) + 1 = ((t + 1 : Nat) : Int) := by omega
    rw [f_X0_countReached_2, if_neg (by omega), e_isReached (by omega), bind_s]
    by_cases hr : rB o σ t = true
    · have hbt := hb t (by omega) (by omega)
      rw [b01_t hr, if_neg (by omega), ck_pos (by omega), Int.toNat_natCast, ck_pos (by omega), ck_pos (by omega), bind_s, ck_pos (by omega), ck_pos (by omega), cc]
      have e5 : ∀ u, (stI (stI σ (o + 5) t (σ.1 (o + 5) t + 1)) (o + 6) t from').1 (o + 5) u = if u = t then σ.1 (o + 5) t + 1 else σ.1 (o + 5) u := fun u => by
        rw [stI_1, if_neg (by omega), stI_1]
        by_cases e : u = t
        · rw [if_pos ⟨rfl, e⟩, if_pos e]
        · rw [if_neg (by omega), if_neg e]
      have e6 : ∀ u, (stI (stI σ (o + 5) t (σ.1 (o + 5) t + 1)) (o + 6) t from').1 (o + 6) u = if u = t then (from' : Int) else σ.1 (o + 6) u := fun u => by
        rw [stI_1]
        by_cases e : u = t
        · rw [if_pos ⟨rfl, e⟩, if_pos e]
        · rw [if_neg (by omega), if_neg e, stI_1, if_neg (by omega)]
      have c8 : CF8 o σ (stI (stI σ (o + 5) t (σ.1 (o + 5) t + 1)) (o + 6) t from') := ⟨fun k q1 q2 q3 => by funext i; rw [stI_1, if_neg (by omega), stI_1, if_neg (by omega)], fun _ _ => rfl⟩
      obtain ⟨σ', r1, r2, r3, r4, r5⟩ := ih f (t + 1) (stI (stI σ (o + 5) t (σ.1 (o + 5) t + 1)) (o + 6) t from') (by rw [c8.1 (o + 9) (by omega) (by omega) (by omega)]; exact h2) (fun u hu hu2 => by
        rw [e5, if_neg (by omega)]
        exact hb u (by omega) hu2) (by omega) (by omega)
      refine ⟨σ', r1, c8.tr r2, r3, ?_, fun u hu => ?_⟩
      · rw [r4]; funext i; rw [stI_1, if_neg (by omega), stI_1, if_neg (by omega)]
      · obtain ⟨a1, a2⟩ := r5 u hu
        have erb : rB o (stI (stI σ (o + 5) t (σ.1 (o + 5) t + 1)) (o + 6) t from') u = rB o σ u := rfl
        rw [erb, e5] at a1
        rw [erb, e6] at a2
        by_cases e : u = t
        · subst e
          constructor
          · rw [a1, if_neg (show ¬ (u + 1 ≤ u ∧ rB o σ u = true) by omega), if_pos rfl, if_pos ⟨Nat.le_refl _, hr⟩]
          · rw [a2, if_neg (show ¬ (u + 1 ≤ u ∧ rB o σ u = true) by omega), if_pos rfl, if_pos ⟨Nat.le_refl _, hr⟩]
        · rw [if_neg e] at a1 a2
          by_cases hb2 : t ≤ u ∧ rB o σ u = true
          · have hb3 : t + 1 ≤ u ∧ rB o σ u = true := ⟨by omega, hb2.2⟩
            exact ⟨by rw [a1, if_pos hb3, if_pos hb2], by rw [a2, if_pos hb3, if_pos hb2]⟩
          · have hb3 : ¬ (t + 1 ≤ u ∧ rB o σ u = true) := fun z => hb2 ⟨by omega, z.2⟩
            exact ⟨by rw [a1, if_neg hb3, if_neg hb2], by rw [a2, if_neg hb3, if_neg hb2]⟩
    · rw [b01_f hr, if_pos rfl, ck_pos (by omega), cc]
      obtain ⟨σ', r1, r2, r3, r4, r5⟩ := ih f (t + 1) σ h2 (fun u hu hu2 => hb u (by omega) hu2) (by omega) (by omega)
      refine ⟨σ', r1, r2, r3, r4, fun u hu => ?_⟩
      obtain ⟨a1, a2⟩ := r5 u hu
      by_cases e : u = t
      · subst e
        have hb3 : ¬ (u + 1 ≤ u ∧ rB o σ u = true) := by omega
        have hb2 : ¬ (u ≤ u ∧ rB o σ u = true) := fun z => hr z.2
        exact ⟨by rw [a1, if_neg hb3, if_neg hb2], by rw [a2, if_neg hb3, if_neg hb2]⟩
      · by_cases hb2 : t ≤ u ∧ rB o σ u = true
        · have hb3 : t + 1 ≤ u ∧ rB o σ u = true := ⟨by omega, hb2.2⟩
          exact ⟨by rw [a1, if_pos hb3, if_pos hb2], by rw [a2, if_pos hb3, if_pos hb2]⟩
        · have hb3 : ¬ (t + 1 ≤ u ∧ rB o σ u = true) := fun z => hb2 ⟨by omega, z.2⟩
          exact ⟨by rw [a1, if_neg hb3, if_neg hb2], by rw [a2, if_neg hb3, if_neg hb2]⟩
/-- what has been counted before place p of NODE n -/
def Cnt (o : Nat) (σ0 τ σ : Mm) (K n p : Nat) : Prop := ∀ u, u < K → σ.1 (o + 5) u = ((ldN σ0 τ u n + ldP σ0 τ n u p : Nat) : Int) ∧ (0 < ldP σ0 τ n u p → σ.1 (o + 6) u = n) ∧ (ldP σ0 τ n u p = 0 → 0 < ldN σ0 τ u n → σ.1 (o + 6) u = (lrN σ0 τ u n : Nat))
theorem lead_node {o : Nat} (ho : o = 15 ∨ o = 29) {σ0 τ : Mm} {K n : Nat} (hK : τ.1 0 24 = K) (hn : n < K) (k10 : Int → Mm → Option Mm) : ∀ (k f p : Nat) (σ : Mm), RF o σ τ → CF8 o σ0 σ → Cnt o σ0 τ σ K n p → p + k = lenOf σ0 τ n → k < f → ∃ σ', f_X0_countLeaders_33 o k10 f n (mOf τ n) p σ = k10 ((n + 1 : Nat) : Int) σ' ∧ RF o σ' τ ∧ CF8 o σ0 σ' ∧ Cnt o σ0 τ σ' K n (lenOf σ0 τ n) := by
  intro k
  induction k with
  | zero =>
    intro f p σ h h8 hc hp hf
    obtain ⟨f, rfl⟩ : ∃ g, f = g + 1 := ⟨f - 1, by omega⟩
    have hpr := prog_side ho h8
    have s7 := h.2.1.2.1
    have h11 := h.1.1.2.1
    have elen : lenOf σ τ n = lenOf σ0 τ n := by unfold lenOf; rw [hpr 6 (by omega) (by omega)]
    obtain ⟨l1, l2, l3, l4⟩ := lenOf_le h (k := n) (by omega)
    obtain rfl : p = lenOf σ0 τ n := by omega
    refine ⟨σ, ?_, h, h8, hc⟩
    rw [f_X0_countLeaders_33, ck_pos (by omega), Int.toNat_natCast, if_pos (by omega), ck_pos (by omega)]; rfl
  | succ k ih =>
    intro f p σ h h8 hc hp hf
    obtain ⟨f, rfl⟩ : ∃ g, f = g + 1 := ⟨f - 1, by omega⟩
    have hpr := prog_side ho h8
    obtain ⟨⟨t1, -⟩, s7, -⟩ := h.2.1
    have h11 := h.1.1.2.1
    have h12 := h.1.1.2.2.1
    have elen : lenOf σ τ n = lenOf σ0 τ n := by unfold lenOf; rw [hpr 6 (by omega) (by omega)]
    obtain ⟨l1, l2, l3, l4⟩ := lenOf_le h (k := n) (by omega)
    have cc : (p : Int) + 1 = ((p + 1 : Nat) : Int) := by omega
    obtain ⟨q1, -⟩ := PR_ln h.1 l4 (p := p) (by omega)
    have eln : ln σ (mOf τ n) p = ln σ0 (mOf τ n) p := by unfold ln; rw [hpr 7 (by omega) (by omega)]
    rw [f_X0_countLeaders_33, ck_pos (by omega), Int.toNat_natCast, if_neg (by omega), e_stepAt h.1 l4 (by omega), bind_s, e_isLeading _ (by omega), bind_s, Int.toNat_natCast]
    have hstep : ∀ u, ldP σ0 τ n u (p + 1) = ldP σ0 τ n u p + if LedB σ0 τ n (ln σ0 (mOf τ n) p) u then 1 else 0 := fun u => rfl
    by_cases hk : σ.1 8 (ln σ (mOf τ n) p) = 9 ∨ σ.1 8 (ln σ (mOf τ n) p) = 10
    · rw [b01_t ⟨by omega, q1, hk⟩, if_neg (by omega)]
      obtain ⟨σ1, r1, r2, r3, r4⟩ := e_reach ho h (n := n) (by omega) q1 hk
      have h1 := RF_side ho h r2
      have e5 : ∀ u, σ1.1 (o + 5) u = σ.1 (o + 5) u := fun u => by rw [r3]
      have e6 : ∀ u, σ1.1 (o + 6) u = σ.1 (o + 6) u := fun u => by rw [r3]
      obtain ⟨σ2, w1, w2, w3, w4, w5⟩ := count_aux (o := o) (K := K) (by omega) (from' := n) K 2000 0 σ1 (by rw [r3]; omega) (fun u _ hu => by
        rw [e5, (hc u hu).1]
        have a1 := ldN_le (RF_side ho h1 (CF8.rf)) u n (by omega)
        have a2 := ldP_le σ0 τ n u p
        have a3 := ldN_prog (τ := τ) (prog_side ho (h8.tr r2)) u n
        omega) (by omega) (by omega)
      rw [show ((0 : Nat) : Int) = 0 from rfl] at w1
      have ecr : f_X0_countReached o n σ1 = some σ2 := w1
      rw [r1, bind_s, ecr, bind_s, ck_pos (by omega), cc]
      refine ih f (p + 1) σ2 (RF_side ho h1 w2) ((h8.tr r2).tr w2) (fun u hu => ?_) (by omega) (by omega)
      obtain ⟨c1, c2, c3⟩ := hc u hu
      obtain ⟨v1, v2⟩ := w5 u hu
      have er : rB o σ1 u = LedB σ0 τ n (ln σ0 (mOf τ n) p) u := by
        rw [r4 u (by omega), LedB_prog hpr, eln]
      rw [er, e5] at v1
      rw [er, e6] at v2
      rw [v1, v2, hstep]
      cases hB : LedB σ0 τ n (ln σ0 (mOf τ n) p) u
      · rw [if_neg (by simp), if_neg (by simp)]
        simp only [Bool.false_eq_true, if_false, Nat.add_zero]
        exact ⟨c1, c2, c3⟩
      · have hT : 0 ≤ u ∧ true = true := ⟨by omega, rfl⟩
        rw [if_pos hT, if_pos hT]
        simp only [if_true]
        refine ⟨?_, fun _ => trivial, fun z => by omega⟩
        rw [c1]; omega
    · rw [b01_f (fun z => hk z.2.2), if_pos rfl, ck_pos (by omega), cc]
      refine ih f (p + 1) σ h h8 (fun u hu => ?_) (by omega) (by omega)
      have hB : LedB σ0 τ n (ln σ0 (mOf τ n) p) u = false := by
        rw [← LedB_prog hpr, ← eln]; exact LedB_off hk
      rw [hstep, hB]
      simp only [Bool.false_eq_true, if_false, Nat.add_zero]
      exact hc u hu
theorem Cnt_next {o K n : Nat} {σ0 τ σ : Mm} (h : Cnt o σ0 τ σ K n (lenOf σ0 τ n)) : Cnt o σ0 τ σ K (n + 1) 0 := fun u hu => by
  obtain ⟨c1, c2, c3⟩ := h u hu
  refine ⟨c1, fun z => by exact absurd z (by show ¬ 0 < 0; omega), fun _ z => ?_⟩
  have z' : 0 < ldN σ0 τ u n + ldP σ0 τ n u (lenOf σ0 τ n) := z
  show σ.1 (o + 6) u = ((if 0 < ldP σ0 τ n u (lenOf σ0 τ n) then n else lrN σ0 τ u n : Nat) : Int)
  by_cases hp : 0 < ldP σ0 τ n u (lenOf σ0 τ n)
  · rw [if_pos hp]; exact c2 hp
  · rw [if_neg hp]; exact c3 (by omega) (by omega)
theorem lead_nodes {o : Nat} (ho : o = 15 ∨ o = 29) {σ0 τ : Mm} {K : Nat} (hK : τ.1 0 24 = K) : ∀ (k f n : Nat) (σ : Mm), RF o σ τ → CF8 o σ0 σ → Cnt o σ0 τ σ K n 0 → n + k = K → k < f → ∃ σ', f_X0_countLeaders_10 o f n σ = (f_X0_settleOnce o σ').bind (fun r21 => some r21) ∧ RF o σ' τ ∧ CF8 o σ0 σ' ∧ Cnt o σ0 τ σ' K K 0 := by
  intro k
  induction k with
  | zero =>
    intro f n σ h h8 hc hn hf
    obtain ⟨f, rfl⟩ : ∃ g, f = g + 1 := ⟨f - 1, by omega⟩
    obtain ⟨⟨t1, -⟩, s7, -⟩ := h.2.1
    obtain rfl : n = K := by omega
    exact ⟨σ, by rw [f_X0_countLeaders_10, if_pos (by omega)], h, h8, hc⟩
  | succ k ih =>
    intro f n σ h h8 hc hn hf
    obtain ⟨f, rfl⟩ : ∃ g, f = g + 1 := ⟨f - 1, by omega⟩
    obtain ⟨⟨t1, -⟩, s7, -⟩ := h.2.1
    obtain ⟨⟨n1, -⟩, n3, -⟩ := h.2.2.1 n (by omega)
    have hpr := prog_side ho h8
    have elen : lenOf σ τ n = lenOf σ0 τ n := by unfold lenOf; rw [hpr 6 (by omega) (by omega)]
    obtain ⟨l1, l2, l3, l4⟩ := lenOf_le h (k := n) (by omega)
    obtain ⟨σ1, r1, r2, r3, r4⟩ := lead_node ho (σ0 := σ0) (τ := τ) hK (n := n) (by omega) (f_X0_countLeaders_10 o f) (lenOf σ0 τ n) 2000 0 σ h h8 hc (by omega) (by omega)
    rw [show ((0 : Nat) : Int) = 0 from rfl] at r1
    rw [f_X0_countLeaders_10, if_neg (by omega), ck_pos (by omega), Int.toNat_natCast, n1, ← l3, r1]
    exact ih f (n + 1) σ1 r2 r3 (Cnt_next r4) (by omega) (by omega)
/-! ONCE, the class -/
theorem settle_aux {o : Nat} (ho : o = 15 ∨ o = 29) {σ0 τ : Mm} {K : Nat} (hK : τ.1 0 24 = K) (hO : Org σ0 τ) (h0 : RF o σ0 τ) : ∀ (k f n : Nat) (σ : Mm), RF o σ τ → CF8 o σ0 σ → Cnt o σ0 τ σ K K 0 → 1 ≤ n → (∀ i, i < n → i < K → σ.1 (o + 7) i = b01 (onB σ0 τ K (i + 1) i = true)) → n + k = K + 1 → k < f → ∃ σ', f_X0_settleOnce_22 o f n σ = some σ' ∧ RF o σ' τ ∧ CF8 o σ0 σ' ∧ Cnt o σ0 τ σ' K K 0 ∧ ∀ i, i < K → σ'.1 (o + 7) i = b01 (onB σ0 τ K (i + 1) i = true) := by
  intro k
  induction k with
  | zero =>
    intro f n σ h h8 hc h1 ho' hn hf
    obtain ⟨f, rfl⟩ : ∃ g, f = g + 1 := ⟨f - 1, by omega⟩
    obtain ⟨⟨t1, -⟩, s7, -⟩ := h.2.1
    rw [f_X0_settleOnce_22, if_pos (by omega)]
    exact ⟨σ, rfl, h, h8, hc, fun i hi => ho' i (by omega) hi⟩
  | succ k ih =>
    intro f n σ h h8 hc h1 ho' hn hf
    obtain ⟨f, rfl⟩ : ∃ g, f = g + 1 := ⟨f - 1, by omega⟩
    obtain ⟨⟨t1, -⟩, s7, -⟩ := h.2.1
    have cc : (n : Int) + 1 = ((n + 1 : Nat) : Int) := by omega
    by_cases hnK : n = K
    · rw [f_X0_settleOnce_22, if_pos (by omega)]
      exact ⟨σ, rfl, h, h8, hc, fun i hi => ho' i (by omega) hi⟩
    · have key : ∀ v : Int, v = b01 (onB σ0 τ K (n + 1) n = true) → ∃ σ', f_X0_settleOnce_22 o f ((n + 1 : Nat) : Int) (stI σ (o + 7) n v) = some σ' ∧ RF o σ' τ ∧ CF8 o σ0 σ' ∧ Cnt o σ0 τ σ' K K 0 ∧ ∀ i, i < K → σ'.1 (o + 7) i = b01 (onB σ0 τ K (i + 1) i = true) := fun v hv => by
        have c8 : CF8 o σ (stI σ (o + 7) n v) := ⟨fun k q1 q2 q3 => by funext i; rw [stI_1, if_neg (by omega)], fun _ _ => rfl⟩
        refine ih f (n + 1) (stI σ (o + 7) n v) (RF_side ho h c8) (h8.tr c8) (fun u hu => ?_) (by omega) (fun i hi hi2 => ?_) (by omega) (by omega)
        · rw [stI_1, if_neg (by omega), stI_1, if_neg (by omega)]
          exact hc u hu
        · rw [stI_1]
          by_cases e : i = n
          · subst e; rw [if_pos ⟨rfl, rfl⟩, hv]
          · rw [if_neg (by omega)]; exact ho' i (by omega) hi2
      obtain ⟨c1, c2, c3⟩ := hc n (by omega)
      have c1' : σ.1 (o + 5) n = (ldN σ0 τ n K : Nat) := by rw [c1]; show ((ldN σ0 τ n K + 0 : Nat) : Int) = _; rfl
      have eon : onB σ0 τ K (n + 1) n = (decide (ldN σ0 τ n K = 1) && onB σ0 τ K n (lrN σ0 τ n K)) := by
        show (if n = 0 then _ else _) = _
        rw [if_neg (by omega)]
      rw [f_X0_settleOnce_22, if_neg (by omega), ck_pos (by omega), Int.toNat_natCast, c1']
      by_cases hl1 : ldN σ0 τ n K = 1
      · have hlr := lr_lt h0 hO (by omega) hK (by omega) hl1
        have c3' : σ.1 (o + 6) n = (lrN σ0 τ n K : Nat) := c3 rfl (by omega)
        have hst := onB_st h0 hO hK (lrN σ0 τ n K) n (lrN σ0 τ n K + 1) (by omega) hlr (by omega)
        rw [if_pos (by omega), ck_pos (by omega), c3', if_neg (by omega), ck_pos (by omega), ck_pos (by omega), Int.toNat_natCast, ho' (lrN σ0 τ n K) (by omega) (by omega)]
        by_cases hb : onB σ0 τ K (lrN σ0 τ n K + 1) (lrN σ0 τ n K) = true
        · rw [b01_t hb, if_neg (by omega), ck_pos (by omega), ck_pos (by omega), cc]
          exact key 1 (by rw [b01_t]; rw [eon, hst, hb, hl1]; rfl)
        · rw [b01_f hb, if_pos rfl, ck_pos (by omega), ck_pos (by omega), cc]
          exact key 0 (by rw [b01_f]; rw [eon, hst]; intro z; rw [Bool.and_eq_true] at z; exact hb z.2)
      · rw [if_neg (by omega), ck_pos (by omega), ck_pos (by omega), cc]
        exact key 0 (by rw [b01_f]; rw [eon, decide_eq_false hl1]; intro z; cases z)
theorem e_fillI5 {q N : Nat} (hN : N ≤ 1000) : ∀ (k f i : Nat) (σ : Mm), i + k = N → k < f → ∃ σ', f_J7_fill_53178_5 N q f 0 i N σ = some σ' ∧ σ'.2 = σ.2 ∧ (∀ a b, ¬ (a = q ∧ i ≤ b ∧ b < N) → σ'.1 a b = σ.1 a b) ∧ ∀ b, i ≤ b → b < N → σ'.1 q b = 0 := by
  intro k
  induction k with
  | zero =>
    intro f i σ hi hf
    obtain ⟨f, rfl⟩ : ∃ g, f = g + 1 := ⟨f - 1, by omega⟩
    rw [f_J7_fill_53178_5, if_pos (by omega)]
    exact ⟨σ, rfl, rfl, fun _ _ _ => rfl, fun b h1 h2 => by omega⟩
  | succ k ih =>
    intro f i σ hi hf
    obtain ⟨f, rfl⟩ : ∃ g, f = g + 1 := ⟨f - 1, by omega⟩
    rw [f_J7_fill_53178_5, if_neg (by omega), ck_pos (by omega), ck_pos (by omega), Int.toNat_natCast, show (i : Int) + 1 = ((i + 1 : Nat) : Int) by omega]
    obtain ⟨σ', r1, r2, r3, r4⟩ := ih f (i + 1) (stI σ q i 0) (by omega) (by omega)
    refine ⟨σ', r1, r2, fun a b hab => ?_, fun b h1 h2 => ?_⟩
    · rw [r3 a b (by omega), stI_1, if_neg (by omega)]
    · by_cases e : b = i
      · subst e
        rw [r3 q b (by omega), stI_1, if_pos ⟨rfl, rfl⟩]
      · exact r4 b (by omega) h2
theorem e_countLeaders {o : Nat} (ho : o = 15 ∨ o = 29) {σ τ : Mm} (h : RF o σ τ) (hO : Org σ τ) {K : Nat} (hK : τ.1 0 24 = K) (hK1 : 1 ≤ K) : ∃ σ', f_X0_countLeaders o σ = some σ' ∧ RF o σ' τ ∧ CF8 o σ σ' ∧ ∀ i, i < K → σ'.1 (o + 5) i = (ldN σ τ i K : Nat) ∧ σ'.1 (o + 7) i = b01 (onB σ τ K (i + 1) i = true) := by
  have s7 := h.2.1.2.1
  obtain ⟨σ1, r1, r2, r3, r4⟩ := e_fillI5 (q := o + 5) (N := 80) (by omega) 80 2000 0 σ (by omega) (by omega)
  have c8 : CF8 o σ σ1 := ⟨fun k q1 _ _ => by funext i; exact r3 k i (by omega), fun k _ => by rw [r2]⟩
  have h1 := RF_side ho h c8
  obtain ⟨σ2, w1, w2, w3, w4⟩ := lead_nodes ho (σ0 := σ) hK K 2000 0 σ1 h1 c8 (fun u hu => ⟨r4 u (by omega) (by omega), fun z => absurd z (by show ¬ 0 < 0; omega), fun _ z => absurd z (by show ¬ 0 < 0; omega)⟩) (by omega) (by omega)
  rw [show ((0 : Nat) : Int) = 0 from rfl] at w1
  have c0 : σ2.1 (o + 5) 0 = (ldN σ τ 0 K : Nat) := by
    rw [(w4 0 (by omega)).1]; show ((ldN σ τ 0 K + 0 : Nat) : Int) = _; rfl
  have key : ∀ v : Int, v = b01 (onB σ τ K 1 0 = true) → ∃ σ', f_X0_settleOnce_22 o 2000 1 (stI σ2 (o + 7) 0 v) = some σ' ∧ RF o σ' τ ∧ CF8 o σ σ' ∧ Cnt o σ τ σ' K K 0 ∧ ∀ i, i < K → σ'.1 (o + 7) i = b01 (onB σ τ K (i + 1) i = true) := fun v hv => by
    have c8' : CF8 o σ2 (stI σ2 (o + 7) 0 v) := ⟨fun k q1 q2 q3 => by funext i; rw [stI_1, if_neg (by omega)], fun _ _ => rfl⟩
    refine settle_aux ho hK hO h K 2000 1 (stI σ2 (o + 7) 0 v) (RF_side ho w2 c8') (w3.tr c8') (fun u hu => ?_) (by omega) (fun i hi hi2 => ?_) (by omega) (by omega)
    · rw [stI_1, if_neg (by omega), stI_1, if_neg (by omega)]
      exact w4 u hu
    · obtain rfl : i = 0 := by omega
      rw [stI_1, if_pos ⟨rfl, rfl⟩, hv]
  have eon : onB σ τ K 1 0 = decide (ldN σ τ 0 K = 0) := rfl
  have efin : ∃ σ', f_X0_settleOnce o σ2 = some σ' ∧ RF o σ' τ ∧ CF8 o σ σ' ∧ Cnt o σ τ σ' K K 0 ∧ ∀ i, i < K → σ'.1 (o + 7) i = b01 (onB σ τ K (i + 1) i = true) := by
    unfold f_X0_settleOnce
    rw [ck_pos (by omega), c0]
    by_cases hz : ldN σ τ 0 K = 0
    · rw [if_pos (by omega), ck_pos (by omega)]
      exact key 1 (by rw [b01_t]; rw [eon]; exact decide_eq_true hz)
    · rw [if_neg (by omega), ck_pos (by omega)]
      exact key 0 (by rw [b01_f]; rw [eon, decide_eq_false hz]; intro z; cases z)
  obtain ⟨σ3, v1, v2, v3, v4, v5⟩ := efin
  refine ⟨σ3, ?_, v2, v3, fun i hi => ⟨?_, v5 i hi⟩⟩
  · unfold f_X0_countLeaders f_J7_fill_53178
    rw [show ((0 : Nat) : Int) = 0 from rfl] at r1
    rw [r1, bind_s, w1, v1, bind_s]
  · rw [(v4 i hi).1]; show ((ldN σ τ i K + 0 : Nat) : Int) = _; rfl
