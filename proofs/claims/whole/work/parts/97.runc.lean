/-! WITHIN: what the reference notes by STEPS -/
theorem dv60 : ∀ s : Nat, s < 90 → iDiv (s : Int) 60 = ((s / 60 : Nat) : Int) ∧ iRem (s : Int) 60 = ((s % 60 : Nat) : Int) := by decide +kernel
def BsP (τ : Mm) (n v x j i : Nat) : Prop := lb (τ.2 16 (8 * n + v)) x = true ∧ j = 12 * mOf τ n + 2 * v + xst τ x / 60 ∧ i = xst τ x % 60
def BsR (q : Nat) (τ σ : Mm) : Prop := σ.1 = τ.1 ∧ ∀ k, k ≠ q → σ.2 k = τ.2 k
theorem bs40 {τ : Mm} {q n v N : Nat} (hq : q ≠ 16) (hn : n < 80) (hv : v < 6) (hN : τ.1 0 29 = N) (h60 : N ≤ 60) (hm : τ.1 13 n = (mOf τ n : Nat)) (hm12 : mOf τ n < 12) (hxs : ∀ y, y < N → τ.1 17 y = (xst τ y : Nat) ∧ xst τ y < 90) (k31 : Int → Int → Mm → Option Mm) : ∀ (k f x : Nat) (σ : Mm), BsR q τ σ → x + k = N → k < f → ∃ σ', f_X7_bySteps_40 144 q k31 f n v x σ = k31 n ((v + 1 : Nat) : Int) σ' ∧ BsR q τ σ' ∧ ∀ j i, lb (σ'.2 q j) i = true ↔ lb (σ.2 q j) i = true ∨ ∃ y, (x ≤ y ∧ y < N) ∧ BsP τ n v y j i := by
  intro k
  induction k with
  | zero =>
    intro f x σ hR hx hf
    obtain ⟨f, rfl⟩ : ∃ g, f = g + 1 := ⟨f - 1, by omega⟩
    rw [f_X7_bySteps_40, if_pos (by rw [hR.1]; omega), ck_pos (by omega), show (v : Int) + 1 = ((v + 1 : Nat) : Int) by omega]
    exact ⟨σ, rfl, hR, fun j i => ⟨Or.inl, fun z => z.elim id (fun ⟨y, z, _⟩ => by omega)⟩⟩
  | succ k ih =>
    intro f x σ hR hx hf
    obtain ⟨f, rfl⟩ : ∃ g, f = g + 1 := ⟨f - 1, by omega⟩
    obtain ⟨s1, s2⟩ := hxs x (by omega)
    have cc : (x : Int) + 1 = ((x + 1 : Nat) : Int) := by omega
    rw [f_X7_bySteps_40, if_neg (by rw [hR.1]; omega), ck_pos (by omega), show Int.toNat (8 * (n : Int) + v) = 8 * n + v by omega, hR.2 16 (by omega)]
    by_cases hb : lb (τ.2 16 (8 * n + v)) x = true
    · obtain ⟨d1, d2⟩ := dv60 (xst τ x) s2
      have eJ : 12 * ((mOf τ n : Nat) : Int) + 2 * (v : Int) + ((xst τ x / 60 : Nat) : Int) = ((12 * mOf τ n + 2 * v + xst τ x / 60 : Nat) : Int) := by omega
      have hJ4 : 12 * mOf τ n + 2 * v + xst τ x / 60 < 144 := by omega
      have hI6 : xst τ x % 60 < 64 := by omega
      have hBP : ∀ j i, j = 12 * mOf τ n + 2 * v + xst τ x / 60 → i = xst τ x % 60 → BsP τ n v x j i := fun j i z1 z2 => ⟨hb, z1, z2⟩
      have hBQ : ∀ j i, BsP τ n v x j i → j = 12 * mOf τ n + 2 * v + xst τ x / 60 ∧ i = xst τ x % 60 := fun j i z => z.2
      rw [if_pos ((lbit1 _ (by omega)).mpr hb), ck_pos (by omega), ck_pos (by omega), hR.1, Int.toNat_natCast, Int.toNat_natCast, hm, s1, d1, d2, eJ]
      generalize 12 * mOf τ n + 2 * v + xst τ x / 60 = J at *
      generalize xst τ x % 60 = I at *
      rw [ck_pos (by omega), ck_pos (by omega), ck_pos (by omega), bind_s, ck_pos (by omega), Int.toNat_natCast, cc]
      obtain ⟨σ', w1, w2, w3⟩ := ih f (x + 1) (stL σ q J (σ.2 q J ||| lShl 1 (I : Int))) ⟨by rw [stL_1]; exact hR.1, fun k hk => by funext b; rw [stL_2, if_neg (by omega), hR.2 k hk]⟩ (by omega) (by omega)
      have e : ∀ j i, lb ((stL σ q J (σ.2 q J ||| lShl 1 (I : Int))).2 q j) i = true ↔ lb (σ.2 q j) i = true ∨ (j = J ∧ i = I) := fun j i => by
        rw [stL_2]
        by_cases z : j = J
        · rw [if_pos ⟨rfl, z⟩, lb_or, Bool.or_eq_true, lb_bit hI6, z]
          exact ⟨fun y => y.elim Or.inl (fun y => Or.inr ⟨rfl, y⟩), fun y => y.elim Or.inl (fun y => Or.inr y.2)⟩
        · rw [if_neg (fun y => z y.2)]
          exact ⟨Or.inl, fun y => y.elim id (fun y => absurd y.1 z)⟩
      refine ⟨σ', w1, w2, fun j i => ?_⟩
      rw [w3 j i, e j i]
      constructor
      · rintro ((h1 | ⟨h1, h2⟩) | ⟨y, y1, y2⟩)
        · exact Or.inl h1
        · exact Or.inr ⟨x, by omega, hBP j i h1 h2⟩
        · exact Or.inr ⟨y, by omega, y2⟩
      · rintro (h1 | ⟨y, y1, y2⟩)
        · exact Or.inl (Or.inl h1)
        · by_cases hy : y = x
          · subst hy
            exact Or.inl (Or.inr (hBQ j i y2))
          · exact Or.inr ⟨y, by omega, y2⟩
    · rw [if_neg (fun z => hb ((lbit1 _ (by omega)).mp z)), ck_pos (by omega), cc]
      obtain ⟨σ', w1, w2, w3⟩ := ih f (x + 1) σ hR (by omega) (by omega)
      refine ⟨σ', w1, w2, fun j i => ?_⟩
      rw [w3 j i]
      constructor
      · rintro (h1 | ⟨y, y1, y2⟩)
        · exact Or.inl h1
        · exact Or.inr ⟨y, by omega, y2⟩
      · rintro (h1 | ⟨y, y1, y2⟩)
        · exact Or.inl h1
        · by_cases hy : y = x
          · subst hy
            exact absurd y2.1 hb
          · exact Or.inr ⟨y, by omega, y2⟩
theorem bs31 {τ : Mm} {q n N : Nat} (hq : q ≠ 16) (hn : n < 80) (hN : τ.1 0 29 = N) (h60 : N ≤ 60) (hm : τ.1 13 n = (mOf τ n : Nat)) (hm12 : mOf τ n < 12) (hxs : ∀ y, y < N → τ.1 17 y = (xst τ y : Nat) ∧ xst τ y < 90) (k21 : Int → Mm → Option Mm) : ∀ (k f v : Nat) (σ : Mm), BsR q τ σ → v + k = 6 → k < f → ∃ σ', f_X7_bySteps_31 144 q k21 f n v σ = k21 ((n + 1 : Nat) : Int) σ' ∧ BsR q τ σ' ∧ ∀ j i, lb (σ'.2 q j) i = true ↔ lb (σ.2 q j) i = true ∨ ∃ w y, (v ≤ w ∧ w < 6) ∧ y < N ∧ BsP τ n w y j i := by
  intro k
  induction k with
  | zero =>
    intro f v σ hR hx hf
    obtain ⟨f, rfl⟩ : ∃ g, f = g + 1 := ⟨f - 1, by omega⟩
    rw [f_X7_bySteps_31, if_pos (by omega), ck_pos (by omega), show (n : Int) + 1 = ((n + 1 : Nat) : Int) by omega]
    exact ⟨σ, rfl, hR, fun j i => ⟨Or.inl, fun z => z.elim id (fun ⟨w, y, z, _⟩ => by omega)⟩⟩
  | succ k ih =>
    intro f v σ hR hx hf
    obtain ⟨f, rfl⟩ : ∃ g, f = g + 1 := ⟨f - 1, by omega⟩
    rw [f_X7_bySteps_31, if_neg (by omega)]
    obtain ⟨σ1, v1, v2, v3⟩ := bs40 hq hn (v := v) (by omega) hN h60 hm hm12 hxs (f_X7_bySteps_31 144 q k21 f) N 2000 0 σ hR (by omega) (by omega)
    obtain ⟨σ', w1, w2, w3⟩ := ih f (v + 1) σ1 v2 (by omega) (by omega)
    have v1' : f_X7_bySteps_40 144 q (f_X7_bySteps_31 144 q k21 f) 2000 n v 0 σ = f_X7_bySteps_31 144 q k21 f n ((v + 1 : Nat) : Int) σ1 := v1
    refine ⟨σ', v1'.trans w1, w2, fun j i => ?_⟩
    rw [w3 j i, v3 j i]
    constructor
    · rintro ((h1 | ⟨y, y1, y2⟩) | ⟨w, y, y1, y2, y3⟩)
      · exact Or.inl h1
      · exact Or.inr ⟨v, y, by omega, y1.2, y2⟩
      · exact Or.inr ⟨w, y, by omega, y2, y3⟩
    · rintro (h1 | ⟨w, y, y1, y2, y3⟩)
      · exact Or.inl (Or.inl h1)
      · by_cases hw : w = v
        · subst hw
          exact Or.inl (Or.inr ⟨y, by omega, y3⟩)
        · exact Or.inr ⟨w, y, by omega, y2, y3⟩
theorem bs21 {τ : Mm} {q K N : Nat} (hq : q ≠ 16) (hK : τ.1 0 24 = K) (h80 : K ≤ 80) (hN : τ.1 0 29 = N) (h60 : N ≤ 60) (hms : ∀ n, n < K → τ.1 13 n = (mOf τ n : Nat) ∧ mOf τ n < 12) (hxs : ∀ y, y < N → τ.1 17 y = (xst τ y : Nat) ∧ xst τ y < 90) : ∀ (k f n : Nat) (σ : Mm), BsR q τ σ → n + k = K → k < f → ∃ σ', f_X7_bySteps_21 144 q f n σ = some σ' ∧ BsR q τ σ' ∧ ∀ j i, lb (σ'.2 q j) i = true ↔ lb (σ.2 q j) i = true ∨ ∃ u w y, (n ≤ u ∧ u < K) ∧ w < 6 ∧ y < N ∧ BsP τ u w y j i := by
  intro k
  induction k with
  | zero =>
    intro f n σ hR hx hf
    obtain ⟨f, rfl⟩ : ∃ g, f = g + 1 := ⟨f - 1, by omega⟩
    rw [f_X7_bySteps_21, if_pos (by rw [hR.1]; omega)]
    exact ⟨σ, rfl, hR, fun j i => ⟨Or.inl, fun z => z.elim id (fun ⟨u, w, y, z, _⟩ => by omega)⟩⟩
  | succ k ih =>
    intro f n σ hR hx hf
    obtain ⟨f, rfl⟩ : ∃ g, f = g + 1 := ⟨f - 1, by omega⟩
    rw [f_X7_bySteps_21, if_neg (by rw [hR.1]; omega)]
    obtain ⟨m1, m2⟩ := hms n (by omega)
    obtain ⟨σ1, v1, v2, v3⟩ := bs31 hq (n := n) (by omega) hN h60 m1 m2 hxs (f_X7_bySteps_21 144 q f) 6 2000 0 σ hR (by omega) (by omega)
    obtain ⟨σ', w1, w2, w3⟩ := ih f (n + 1) σ1 v2 (by omega) (by omega)
    have v1' : f_X7_bySteps_31 144 q (f_X7_bySteps_21 144 q f) 2000 n 0 σ = f_X7_bySteps_21 144 q f ((n + 1 : Nat) : Int) σ1 := v1
    refine ⟨σ', v1'.trans w1, w2, fun j i => ?_⟩
    rw [w3 j i, v3 j i]
    constructor
    · rintro ((h1 | ⟨w, y, y1, y2, y3⟩) | ⟨u, w, y, y1, y2, y3⟩)
      · exact Or.inl h1
      · exact Or.inr ⟨n, w, y, by omega, y1.2, y2, y3⟩
      · exact Or.inr ⟨u, w, y, by omega, y2, y3⟩
    · rintro (h1 | ⟨u, w, y, y1, y2, y3, y4⟩)
      · exact Or.inl (Or.inl h1)
      · by_cases hw : u = n
        · subst hw
          exact Or.inl (Or.inr ⟨w, y, by omega, y3, y4⟩)
        · exact Or.inr ⟨u, w, y, by omega, y2, y3, y4⟩
theorem bs2 {τ : Mm} {q : Nat} : ∀ (k f x : Nat) (σ : Mm), BsR q τ σ → x + k = 144 → k < f → (∀ j, j < x → σ.2 q j = 0) → ∃ σ', f_X7_bySteps_2 144 q f x σ = f_X7_bySteps_21 144 q 2000 0 σ' ∧ BsR q τ σ' ∧ ∀ j, j < 144 → σ'.2 q j = 0 := by
  intro k
  induction k with
  | zero =>
    intro f x σ hR hx hf hz
    obtain ⟨f, rfl⟩ : ∃ g, f = g + 1 := ⟨f - 1, by omega⟩
    rw [f_X7_bySteps_2, if_pos (by omega)]
    exact ⟨σ, rfl, hR, fun j hj => hz j (by omega)⟩
  | succ k ih =>
    intro f x σ hR hx hf hz
    obtain ⟨f, rfl⟩ : ∃ g, f = g + 1 := ⟨f - 1, by omega⟩
    rw [f_X7_bySteps_2, if_neg (by omega), ck_pos (by omega), ck_pos (by omega), Int.toNat_natCast, show (x : Int) + 1 = ((x + 1 : Nat) : Int) by omega]
    refine ih f (x + 1) (stL σ q x 0) ⟨by rw [stL_1]; exact hR.1, fun k hk => by funext b; rw [stL_2, if_neg (by omega), hR.2 k hk]⟩ (by omega) (by omega) (fun j hj => ?_)
    rw [stL_2]
    by_cases z : j = x
    · rw [if_pos ⟨rfl, z⟩]
    · rw [if_neg (fun y => z y.2)]
      exact hz j (by omega)
theorem RF_rng {o : Nat} {σC τ : Mm} (h : RF o σC τ) : (∀ n : Nat, (n : Int) < τ.1 0 24 → τ.1 13 n = (mOf τ n : Nat) ∧ mOf τ n < 12) ∧ ∀ y : Nat, (y : Int) < τ.1 0 29 → τ.1 17 y = (xst τ y : Nat) ∧ xst τ y < 90 := by
  have h11 := h.1.1.2.1
  have h12 := h.1.1.2.2.1
  refine ⟨fun n hn => ?_, fun y hy => ?_⟩
  · obtain ⟨-, r, -⟩ := h.2.2.1 n hn
    unfold mOf
    omega
  · obtain ⟨-, r, -⟩ := h.2.2.2.1 y hy
    unfold xst
    omega
theorem bySteps {o : Nat} {σC τ : Mm} (h : RF o σC τ) {q : Nat} (hq : q ≠ 16) : ∃ τ', f_X7_bySteps 144 q τ = some τ' ∧ BsR q τ τ' ∧ ∀ j i, j < 144 → (lb (τ'.2 q j) i = true ↔ ∃ u w y : Nat, (u : Int) < τ.1 0 24 ∧ w < 6 ∧ (y : Int) < τ.1 0 29 ∧ BsP τ u w y j i) := by
  obtain ⟨r1, r2⟩ := RF_rng h
  obtain ⟨-, s1, s2, -⟩ := h.2.1
  obtain ⟨K, hK⟩ : ∃ K : Nat, τ.1 0 24 = K := ⟨Int.toNat (τ.1 0 24), by omega⟩
  obtain ⟨N, hN⟩ : ∃ N : Nat, τ.1 0 29 = N := ⟨Int.toNat (τ.1 0 29), by omega⟩
  obtain ⟨σ1, v1, v2, v3⟩ := bs2 (τ := τ) (q := q) 144 2000 0 τ ⟨rfl, fun _ _ => rfl⟩ (by omega) (by omega) (fun j hj => by omega)
  obtain ⟨σ', w1, w2, w3⟩ := bs21 hq hK (by omega) hN (by omega) (fun n hn => r1 n (by omega)) (fun y hy => r2 y (by omega)) K 2000 0 σ1 v2 (by omega) (by omega)
  have v1' : f_X7_bySteps_2 144 q 2000 0 τ = f_X7_bySteps_21 144 q 2000 0 σ1 := v1
  have w1' : f_X7_bySteps_21 144 q 2000 0 σ1 = some σ' := w1
  refine ⟨σ', ?_, w2, fun j i hj => ?_⟩
  · unfold f_X7_bySteps
    rw [v1', w1']
  · rw [w3 j i, v3 j hj, lb_0]
    constructor
    · rintro (h1 | ⟨u, w, y, y1, y2, y3, y4⟩)
      · cases h1
      · exact ⟨u, w, y, by omega, y2, by omega, y4⟩
    · rintro ⟨u, w, y, y1, y2, y3, y4⟩
      exact Or.inr ⟨u, w, y, by omega, y2, by omega, y4⟩
/-! what the class holds against it -/
theorem e_namesIn_aux {o : Nat} {σC τ : Mm} (h : RF o σC τ) {m v K : Nat} (hv : v < 8) (hK : τ.1 0 24 = K) : ∀ (k f n : Nat) (acc : Int64), n + k = K → k < f → ∃ r, f_X0_namesIn_5 o f m v acc n σC = some r ∧ ∀ i, lb r i = true ↔ lb acc i = true ∨ ∃ u, (n ≤ u ∧ u < K) ∧ τ.1 13 u = m ∧ lb (τ.2 16 (8 * u + v)) i = true := by
  obtain ⟨⟨c1, -⟩, s1, -⟩ := h.2.1
  intro k
  induction k with
  | zero =>
    intro f n acc hx hf
    obtain ⟨f, rfl⟩ : ∃ g, f = g + 1 := ⟨f - 1, by omega⟩
    rw [f_X0_namesIn_5, if_pos (by omega)]
    exact ⟨acc, rfl, fun i => ⟨Or.inl, fun z => z.elim id (fun ⟨u, z, _⟩ => by omega)⟩⟩
  | succ k ih =>
    intro f n acc hx hf
    obtain ⟨f, rfl⟩ : ∃ g, f = g + 1 := ⟨f - 1, by omega⟩
    obtain ⟨⟨r1, -⟩, -⟩ := h.2.2.1 n (by omega)
    have r2 := (h.2.2.2.2.1 n v (by omega) hv).1
    have cc : (n : Int) + 1 = ((n + 1 : Nat) : Int) := by omega
    rw [f_X0_namesIn_5, if_neg (by omega), ck_pos (by omega), Int.toNat_natCast, r1, cc]
    by_cases hm : τ.1 13 n = m
    · rw [if_pos hm, e_setOf (by omega) hv, bind_s, r2, ck_pos (by omega)]
      obtain ⟨r, w1, w2⟩ := ih f (n + 1) (acc ||| τ.2 16 (8 * n + v)) (by omega) (by omega)
      refine ⟨r, w1, fun i => ?_⟩
      rw [w2 i, lb_or, Bool.or_eq_true]
      constructor
      · rintro ((h1 | h1) | ⟨u, u1, u2, u3⟩)
        · exact Or.inl h1
        · exact Or.inr ⟨n, by omega, hm, h1⟩
        · exact Or.inr ⟨u, by omega, u2, u3⟩
      · rintro (h1 | ⟨u, u1, u2, u3⟩)
        · exact Or.inl (Or.inl h1)
        · by_cases hu : u = n
          · subst hu
            exact Or.inl (Or.inr u3)
          · exact Or.inr ⟨u, by omega, u2, u3⟩
    · rw [if_neg hm, ck_pos (by omega)]
      obtain ⟨r, w1, w2⟩ := ih f (n + 1) acc (by omega) (by omega)
      refine ⟨r, w1, fun i => ?_⟩
      rw [w2 i]
      constructor
      · rintro (h1 | ⟨u, u1, u2, u3⟩)
        · exact Or.inl h1
        · exact Or.inr ⟨u, by omega, u2, u3⟩
      · rintro (h1 | ⟨u, u1, u2, u3⟩)
        · exact Or.inl h1
        · by_cases hu : u = n
          · subst hu
            exact absurd u2 hm
          · exact Or.inr ⟨u, by omega, u2, u3⟩
theorem e_namesIn {o : Nat} {σC τ : Mm} (h : RF o σC τ) {m v : Nat} (hv : v < 8) : ∃ r, f_X0_namesIn o m v σC = some r ∧ ∀ i, lb r i = true ↔ ∃ u : Nat, (u : Int) < τ.1 0 24 ∧ τ.1 13 u = m ∧ lb (τ.2 16 (8 * u + v)) i = true := by
  obtain ⟨-, s1, -⟩ := h.2.1
  obtain ⟨K, hK⟩ : ∃ K : Nat, τ.1 0 24 = K := ⟨Int.toNat (τ.1 0 24), by omega⟩
  obtain ⟨r, w1, w2⟩ := e_namesIn_aux h (m := m) hv hK K 2000 0 0 (by omega) (by omega)
  refine ⟨r, w1, fun i => ?_⟩
  rw [w2 i, lb_0]
  constructor
  · rintro (h1 | ⟨u, u1, u2, u3⟩)
    · cases h1
    · exact ⟨u, by omega, u2, u3⟩
  · rintro ⟨u, u1, u2, u3⟩
    exact Or.inr ⟨u, by omega, u2, u3⟩
def HsS (τ : Mm) (X : Int64) (s : Int) (x N : Nat) : Prop := ∃ y, (x ≤ y ∧ y < N) ∧ lb X y = true ∧ τ.1 17 y = s
theorem e_hasStep_aux {o : Nat} {σC τ : Mm} (h : RF o σC τ) {X : Int64} {s : Int} {N : Nat} (hN : τ.1 0 29 = N) : ∀ (k f x : Nat), x + k = N → k < f → (f_X0_hasStep_3 o f X s x σC = some 1 ∧ HsS τ X s x N) ∨ (f_X0_hasStep_3 o f X s x σC = some 0 ∧ ¬ HsS τ X s x N) := by
  obtain ⟨⟨-, c2, -⟩, -, s2, -⟩ := h.2.1
  intro k
  induction k with
  | zero =>
    intro f x hx hf
    obtain ⟨f, rfl⟩ : ∃ g, f = g + 1 := ⟨f - 1, by omega⟩
    rw [f_X0_hasStep_3, if_pos (by omega)]
    exact Or.inr ⟨rfl, fun ⟨y, z, _⟩ => by omega⟩
  | succ k ih =>
    intro f x hx hf
    obtain ⟨f, rfl⟩ : ∃ g, f = g + 1 := ⟨f - 1, by omega⟩
    obtain ⟨⟨r1, -⟩, -⟩ := h.2.2.2.1 x (by omega)
    have cc : (x : Int) + 1 = ((x + 1 : Nat) : Int) := by omega
    rw [f_X0_hasStep_3, if_neg (by omega)]
    by_cases hr : lShr X (x : Int) = 0
    · rw [if_pos hr]
      refine Or.inr ⟨rfl, fun ⟨y, z1, z2, z3⟩ => ?_⟩
      rw [(lrest0 X (by omega)).mp hr y z1.1] at z2
      cases z2
    have step : ¬ (lb X x = true ∧ τ.1 17 x = s) → (HsS τ X s (x + 1) N ↔ HsS τ X s x N) := fun hno => by
      constructor
      · rintro ⟨y, y1, y2⟩
        exact ⟨y, by omega, y2⟩
      · rintro ⟨y, y1, y2⟩
        by_cases hy : y = x
        · subst hy
          exact absurd y2 hno
        · exact ⟨y, by omega, y2⟩
    rw [if_neg hr]
    by_cases hb : lb X x = true
    · rw [if_neg (fun z => by rw [(lbit0 X (by omega)).mp z] at hb; cases hb), ck_pos (by omega), Int.toNat_natCast, r1]
      by_cases hs : τ.1 17 x = s
      · rw [if_pos hs]
        exact Or.inl ⟨rfl, x, by omega, hb, hs⟩
      · rw [if_neg hs, ck_pos (by omega), cc, ← step (fun z => hs z.2)]
        exact ih f (x + 1) (by omega) (by omega)
    · rw [if_pos ((lbit0 X (by omega)).mpr (by simpa using hb)), ck_pos (by omega), cc, ← step (fun z => hb z.1)]
      exact ih f (x + 1) (by omega) (by omega)
def NmS (τ2 τ0 : Mm) (X Y : Int64) (x N N0 : Nat) : Prop := ∀ y, x ≤ y → y < N → lb X y = true → HsS τ0 Y (τ2.1 17 y) 0 N0
theorem e_noMore_aux {σC τ2 τ0 : Mm} (h : RF 29 σC τ2) (h0 : RF 15 σC τ0) {X Y : Int64} {N N0 : Nat} (hN : τ2.1 0 29 = N) (hN0 : τ0.1 0 29 = N0) : ∀ (k f x : Nat), x + k = N → k < f → (f_X0_isNoMoreThan_19 29 15 f X Y x σC = some 1 ∧ NmS τ2 τ0 X Y x N N0) ∨ (f_X0_isNoMoreThan_19 29 15 f X Y x σC = some 0 ∧ ¬ NmS τ2 τ0 X Y x N N0) := by
  obtain ⟨⟨-, c2, -⟩, -, s2, -⟩ := h.2.1
  obtain ⟨-, -, s0, -⟩ := h0.2.1
  intro k
  induction k with
  | zero =>
    intro f x hx hf
    obtain ⟨f, rfl⟩ : ∃ g, f = g + 1 := ⟨f - 1, by omega⟩
    rw [f_X0_isNoMoreThan_19, if_pos (by omega)]
    exact Or.inl ⟨rfl, fun y z1 z2 => by omega⟩
  | succ k ih =>
    intro f x hx hf
    obtain ⟨f, rfl⟩ : ∃ g, f = g + 1 := ⟨f - 1, by omega⟩
    obtain ⟨⟨r1, -⟩, -⟩ := h.2.2.2.1 x (by omega)
    have cc : (x : Int) + 1 = ((x + 1 : Nat) : Int) := by omega
    rw [f_X0_isNoMoreThan_19, if_neg (by omega)]
    by_cases hr : lShr X (x : Int) = 0
    · rw [if_pos hr]
      refine Or.inl ⟨rfl, fun y z1 z2 z3 => ?_⟩
      rw [(lrest0 X (by omega)).mp hr y z1] at z3
      cases z3
    have step : (lb X x = true → HsS τ0 Y (τ2.1 17 x) 0 N0) → (NmS τ2 τ0 X Y (x + 1) N N0 ↔ NmS τ2 τ0 X Y x N N0) := fun hno => by
      constructor
      · intro z y y1 y2 y3
        by_cases hy : y = x
        · subst hy
          exact hno y3
        · exact z y (by omega) y2 y3
      · intro z y y1 y2 y3
        exact z y (by omega) y2 y3
    rw [if_neg hr]
    by_cases hb : lb X x = true
    · rw [if_neg (fun z => by rw [(lbit0 X (by omega)).mp z] at hb; cases hb), ck_pos (by omega), Int.toNat_natCast, r1]
      unfold f_X0_hasStep
      rcases e_hasStep_aux h0 (X := Y) (s := τ2.1 17 x) hN0 N0 2000 0 (by omega) (by omega) with ⟨q1, q2⟩ | ⟨q1, q2⟩
      · have q1' : f_X0_hasStep_3 15 2000 Y (τ2.1 17 x) 0 σC = some 1 := q1
        rw [q1', bind_s, if_neg (by omega), ck_pos (by omega), cc, ← step (fun _ => q2)]
        exact ih f (x + 1) (by omega) (by omega)
      · have q1' : f_X0_hasStep_3 15 2000 Y (τ2.1 17 x) 0 σC = some 0 := q1
        rw [q1', bind_s, if_pos rfl]
        exact Or.inr ⟨rfl, fun z => q2 (z x (by omega) (by omega) hb)⟩
    · rw [if_pos ((lbit0 X (by omega)).mpr (by simpa using hb)), ck_pos (by omega), cc, ← step (fun z => absurd z hb)]
      exact ih f (x + 1) (by omega) (by omega)
/-- by STEPS, one finding is no more than another, of a VAR of a METHOD -/
def Qw (τ2 τ0 : Mm) (m v : Nat) : Prop := ∀ u y : Nat, (u : Int) < τ2.1 0 24 → τ2.1 13 u = m → (y : Int) < τ2.1 0 29 → lb (τ2.2 16 (8 * u + v)) y = true → ∃ u' y' : Nat, (u' : Int) < τ0.1 0 24 ∧ τ0.1 13 u' = m ∧ (y' : Int) < τ0.1 0 29 ∧ lb (τ0.2 16 (8 * u' + v)) y' = true ∧ τ0.1 17 y' = τ2.1 17 y
theorem e_noMore {σC τ2 τ0 : Mm} (h : RF 29 σC τ2) (h0 : RF 15 σC τ0) {m v : Nat} (hv : v < 6) : (f_X0_isNoMoreThan 29 15 m v σC = some 1 ∧ Qw τ2 τ0 m v) ∨ (f_X0_isNoMoreThan 29 15 m v σC = some 0 ∧ ¬ Qw τ2 τ0 m v) := by
  obtain ⟨X, x1, x2⟩ := e_namesIn h (m := m) (v := v) (by omega)
  obtain ⟨Y, y1, y2⟩ := e_namesIn h0 (m := m) (v := v) (by omega)
  obtain ⟨-, -, s2, -⟩ := h.2.1
  obtain ⟨-, -, s0, -⟩ := h0.2.1
  obtain ⟨N, hN⟩ : ∃ N : Nat, τ2.1 0 29 = N := ⟨Int.toNat (τ2.1 0 29), by omega⟩
  obtain ⟨N0, hN0⟩ : ∃ N : Nat, τ0.1 0 29 = N := ⟨Int.toNat (τ0.1 0 29), by omega⟩
  have key : NmS τ2 τ0 X Y 0 N N0 ↔ Qw τ2 τ0 m v := by
    constructor
    · intro z u y u1 u2 u3 u4
      obtain ⟨y', q1, q2, q3⟩ := z y (by omega) (by omega) ((x2 y).mpr ⟨u, u1, u2, u4⟩)
      obtain ⟨u', p1, p2, p3⟩ := (y2 y').mp q2
      exact ⟨u', y', p1, p2, by omega, p3, q3⟩
    · intro z y q1 q2 q3
      obtain ⟨u, p1, p2, p3⟩ := (x2 y).mp q3
      obtain ⟨u', y', t1, t2, t3, t4, t5⟩ := z u y p1 p2 (by omega) p3
      exact ⟨y', by omega, (y2 y').mpr ⟨u', t1, t2, t4⟩, t5⟩
  unfold f_X0_isNoMoreThan
  rw [x1, bind_s, y1, bind_s, ← key]
  exact e_noMore_aux h h0 hN hN0 N 2000 0 (by omega) (by omega)
theorem wi58 {σC τ2 τ0 : Mm} (h : RF 29 σC τ2) (h0 : RF 15 σC τ0) {m : Nat} (hm : m < 12) (k44 : Int → Mm → Option (Int × Mm)) : ∀ (k f v : Nat), v + k = 6 → k < f → (f_X6_within_58 k44 f m v σC = k44 ((m + 1 : Nat) : Int) σC ∧ ∀ w, v ≤ w → w < 6 → Qw τ2 τ0 m w) ∨ (f_X6_within_58 k44 f m v σC = some (0, σC) ∧ ¬ ∀ w, v ≤ w → w < 6 → Qw τ2 τ0 m w) := by
  intro k
  induction k with
  | zero =>
    intro f v hx hf
    obtain ⟨f, rfl⟩ : ∃ g, f = g + 1 := ⟨f - 1, by omega⟩
    rw [f_X6_within_58, if_pos (by omega), ck_pos (by omega), show (m : Int) + 1 = ((m + 1 : Nat) : Int) by omega]
    exact Or.inl ⟨rfl, fun w z1 z2 => by omega⟩
  | succ k ih =>
    intro f v hx hf
    obtain ⟨f, rfl⟩ : ∃ g, f = g + 1 := ⟨f - 1, by omega⟩
    rw [f_X6_within_58, if_neg (by omega)]
    rcases e_noMore h h0 (m := m) (v := v) (by omega) with ⟨q1, q2⟩ | ⟨q1, q2⟩
    · rw [q1, bind_s, if_neg (by omega), ck_pos (by omega), show (v : Int) + 1 = ((v + 1 : Nat) : Int) by omega]
      rcases ih f (v + 1) (by omega) (by omega) with ⟨p1, p2⟩ | ⟨p1, p2⟩
      · refine Or.inl ⟨p1, fun w z1 z2 => ?_⟩
        by_cases hw : w = v
        · subst hw
          exact q2
        · exact p2 w (by omega) z2
      · exact Or.inr ⟨p1, fun z => p2 (fun w z1 z2 => z w (by omega) z2)⟩
    · rw [q1, bind_s, if_pos rfl]
      exact Or.inr ⟨rfl, fun z => q2 (z v (by omega) (by omega))⟩
theorem wi44 {σC τ2 τ0 : Mm} (h : RF 29 σC τ2) (h0 : RF 15 σC τ0) {M : Nat} (hM : σC.1 1 1 = M) : ∀ (k f m : Nat), m + k = M → k < f → (f_X6_within_44 f m σC = some (1, σC) ∧ ∀ u w, m ≤ u → u < M → w < 6 → Qw τ2 τ0 u w) ∨ (f_X6_within_44 f m σC = some (0, σC) ∧ ¬ ∀ u w, m ≤ u → u < M → w < 6 → Qw τ2 τ0 u w) := by
  have h11 := h.1.1.2.1
  intro k
  induction k with
  | zero =>
    intro f m hx hf
    obtain ⟨f, rfl⟩ : ∃ g, f = g + 1 := ⟨f - 1, by omega⟩
    rw [f_X6_within_44, if_pos (by omega)]
    exact Or.inl ⟨rfl, fun u w z1 z2 => by omega⟩
  | succ k ih =>
    intro f m hx hf
    obtain ⟨f, rfl⟩ : ∃ g, f = g + 1 := ⟨f - 1, by omega⟩
    rw [f_X6_within_44, if_neg (by omega)]
    rcases wi58 h h0 (m := m) (by omega) (f_X6_within_44 f) 6 2000 0 (by omega) (by omega) with ⟨q1, q2⟩ | ⟨q1, q2⟩
    · have q1' : f_X6_within_58 (f_X6_within_44 f) 2000 m 0 σC = f_X6_within_44 f ((m + 1 : Nat) : Int) σC := q1
      rw [q1']
      rcases ih f (m + 1) (by omega) (by omega) with ⟨p1, p2⟩ | ⟨p1, p2⟩
      · refine Or.inl ⟨p1, fun u w z1 z2 z3 => ?_⟩
        by_cases hu : u = m
        · subst hu
          exact q2 w (by omega) z3
        · exact p2 u w (by omega) z2 z3
      · exact Or.inr ⟨p1, fun z => p2 (fun u w z1 z2 z3 => z u w (by omega) z2 z3)⟩
    · have q1' : f_X6_within_58 (f_X6_within_44 f) 2000 m 0 σC = some (0, σC) := q1
      rw [q1']
      exact Or.inr ⟨rfl, fun z => q2 (fun w z1 z2 => z m w (by omega) (by omega) z2)⟩
theorem wi72z (σ : Mm) : ∀ (k f x : Nat), x + k = 144 → k < f → f_X7_within_72 f 0 x σ = some (0, σ) := by
  intro k
  induction k with
  | zero =>
    intro f x hx hf
    obtain ⟨f, rfl⟩ : ∃ g, f = g + 1 := ⟨f - 1, by omega⟩
    rw [f_X7_within_72, if_pos (by omega), if_pos rfl]
  | succ k ih =>
    intro f x hx hf
    obtain ⟨f, rfl⟩ : ∃ g, f = g + 1 := ⟨f - 1, by omega⟩
    rw [f_X7_within_72, if_neg (by omega), if_pos rfl, ck_pos (by omega), show (x : Int) + 1 = ((x + 1 : Nat) : Int) by omega]
    exact ih f (x + 1) (by omega) (by omega)
theorem wi72 (σ : Mm) : ∀ (k f x : Nat), x + k = 144 → k < f → (f_X7_within_72 f 1 x σ = some (1, σ) ∧ ∀ j, x ≤ j → j < 144 → ∀ i, lb (σ.2 31 j) i = true → lb (σ.2 30 j) i = true) ∨ (f_X7_within_72 f 1 x σ = some (0, σ) ∧ ¬ ∀ j, x ≤ j → j < 144 → ∀ i, lb (σ.2 31 j) i = true → lb (σ.2 30 j) i = true) := by
  intro k
  induction k with
  | zero =>
    intro f x hx hf
    obtain ⟨f, rfl⟩ : ∃ g, f = g + 1 := ⟨f - 1, by omega⟩
    rw [f_X7_within_72, if_pos (by omega), if_neg (by omega)]
    exact Or.inl ⟨rfl, fun j z1 z2 => by omega⟩
  | succ k ih =>
    intro f x hx hf
    obtain ⟨f, rfl⟩ : ∃ g, f = g + 1 := ⟨f - 1, by omega⟩
    rw [f_X7_within_72, if_neg (by omega), if_neg (by omega), ck_pos (by omega), ck_pos (by omega), Int.toNat_natCast, show (x : Int) + 1 = ((x + 1 : Nat) : Int) by omega]
    by_cases hs : (σ.2 31 x &&& (σ.2 30 x ^^^ (-1))) = 0
    · have hs' := or_sub.mp (and_not0.mp hs)
      rw [if_pos hs, ck_pos (by omega)]
      rcases ih f (x + 1) (by omega) (by omega) with ⟨p1, p2⟩ | ⟨p1, p2⟩
      · refine Or.inl ⟨p1, fun j z1 z2 => ?_⟩
        by_cases hj : j = x
        · subst hj
          exact hs'
        · exact p2 j (by omega) z2
      · exact Or.inr ⟨p1, fun z => p2 (fun j z1 z2 => z j (by omega) z2)⟩
    · rw [if_neg hs, ck_pos (by omega), wi72z σ k f (x + 1) (by omega) (by omega)]
      exact Or.inr ⟨rfl, fun z => hs (and_not0.mpr (or_sub.mpr (z x (by omega) (by omega))))⟩
/-- both texts compare the same -/
theorem wi_key {σC τ2 τ0 σ : Mm} (h : RF 29 σC τ2) (h0 : RF 15 σC τ0) {M : Nat} (hM : σC.1 1 1 = M) (e31 : ∀ j i, j < 144 → (lb (σ.2 31 j) i = true ↔ ∃ u w y : Nat, (u : Int) < τ2.1 0 24 ∧ w < 6 ∧ (y : Int) < τ2.1 0 29 ∧ BsP τ2 u w y j i)) (e30 : ∀ j i, j < 144 → (lb (σ.2 30 j) i = true ↔ ∃ u w y : Nat, (u : Int) < τ0.1 0 24 ∧ w < 6 ∧ (y : Int) < τ0.1 0 29 ∧ BsP τ0 u w y j i)) : (∀ j, 0 ≤ j → j < 144 → ∀ i, lb (σ.2 31 j) i = true → lb (σ.2 30 j) i = true) ↔ ∀ u w, 0 ≤ u → u < M → w < 6 → Qw τ2 τ0 u w := by
  obtain ⟨r1, r2⟩ := RF_rng h
  obtain ⟨p1, p2⟩ := RF_rng h0
  constructor
  · intro z m v _ hm hv u y u1 u2 u3 u4
    obtain ⟨a1, a2⟩ := r1 u u1
    obtain ⟨a3, a4⟩ := r2 y u3
    obtain ⟨u', w', y', b1, b2, b3, b4, b5, b6⟩ := (e30 (12 * mOf τ2 u + 2 * v + xst τ2 y / 60) (xst τ2 y % 60) (by omega)).mp (z _ (by omega) (by omega) _ ((e31 (12 * mOf τ2 u + 2 * v + xst τ2 y / 60) (xst τ2 y % 60) (by omega)).mpr ⟨u, v, y, u1, hv, u3, u4, rfl, rfl⟩))
    obtain ⟨c1, c2⟩ := p1 u' b1
    obtain ⟨c3, c4⟩ := p2 y' b3
    obtain ⟨d1, d2, d3⟩ : mOf τ0 u' = mOf τ2 u ∧ w' = v ∧ xst τ0 y' = xst τ2 y := by omega
    subst d2
    exact ⟨u', y', b1, by omega, b3, b4, by omega⟩
  · intro z j _ hj i hi
    obtain ⟨u, w, y, b1, b2, b3, b4, b5, b6⟩ := (e31 j i hj).mp hi
    obtain ⟨a1, a2⟩ := r1 u b1
    obtain ⟨a3, a4⟩ := r2 y b3
    have mm := (h.2.2.1 u b1).2.1.2
    obtain ⟨u', y', c1, c2, c3, c4, c5⟩ := z (mOf τ2 u) w (by omega) (by omega) b2 u y b1 a1 b3 b4
    obtain ⟨c6, c7⟩ := p1 u' c1
    obtain ⟨c8, c9⟩ := p2 y' c3
    have d1 : mOf τ0 u' = mOf τ2 u := by omega
    have d2 : xst τ0 y' = xst τ2 y := by omega
    exact (e30 j i hj).mpr ⟨u', w, y', c1, b2, c3, c4, by rw [d1, d2]; exact b5, by rw [d2]; exact b6⟩
