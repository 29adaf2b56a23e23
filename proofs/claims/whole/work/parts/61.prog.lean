/-! THE PROGRAM: what the two contents share -/
def b01 (P : Prop) [Decidable P] : Int := if P then 1 else 0
theorem b01_t {P : Prop} [Decidable P] (h : P) : b01 P = 1 := if_pos h
theorem b01_f {P : Prop} [Decidable P] (h : ¬ P) : b01 P = 0 := if_neg h
theorem b01_0 {P : Prop} [Decidable P] : b01 P = 0 ↔ ¬ P := by
  unfold b01; split <;> simp [*]
theorem b01_z {P : Prop} [Decidable P] : b01 P = 0 ∨ b01 P = 1 := by
  unfold b01; split
  · exact Or.inr rfl
  · exact Or.inl rfl
def PR1 (σC σM : Mm) : Prop := (1 ≤ σC.1 1 0 ∧ σC.1 1 0 ≤ 10) ∧ (0 ≤ σC.1 1 1 ∧ σC.1 1 1 ≤ 12) ∧ (0 ≤ σC.1 1 2 ∧ σC.1 1 2 ≤ 90) ∧ (0 ≤ σC.1 1 3 ∧ σC.1 1 3 ≤ 55) ∧ σM.1 0 0 = σC.1 1 0 ∧ σM.1 0 2 = σC.1 1 1 ∧ σM.1 0 7 = σC.1 1 2 ∧ σM.1 0 8 = σC.1 1 3
def PR2 (σC σM : Mm) : Prop := σM.1 1 0 = -1 ∧ ∀ c : Nat, (c : Int) < σC.1 1 0 → (0 < c → 0 ≤ σM.1 1 c ∧ σM.1 1 c < c) ∧ ∀ d : Nat, d < 10 → ib (σC.1 2 c) d = (decide (d = c) || (decide (0 < c) && ib (σC.1 2 (Int.toNat (σM.1 1 c))) d))
def PR3 (σC σM : Mm) : Prop := ∀ m : Nat, (m : Int) < σC.1 1 1 → (σM.1 2 m = σC.1 3 m ∧ σM.1 3 m = σC.1 4 m) ∧ (-1 ≤ σC.1 3 m ∧ σC.1 3 m < σC.1 1 0) ∧ (0 ≤ σC.1 3 m → 0 ≤ σC.1 4 m ∧ σC.1 4 m < 8) ∧ (σC.1 3 m < 0 → σC.1 4 m = -1) ∧ ∀ m' : Nat, (m' : Int) < σC.1 1 1 → 0 ≤ σC.1 3 m → σC.1 3 m = σC.1 3 m' → σC.1 4 m = σC.1 4 m' → m = m'
def PR4 (σC σM : Mm) : Prop := ∀ c e : Nat, (c : Int) < σC.1 1 0 → e < 8 → (∀ m : Nat, (m : Int) < σC.1 1 1 → σC.1 3 m = c → σC.1 4 m = e → σC.1 5 (c * 8 + e) = m) ∧ ((∀ m : Nat, (m : Int) < σC.1 1 1 → ¬ (σC.1 3 m = c ∧ σC.1 4 m = e)) → σC.1 5 (c * 8 + e) = if c = 0 then -1 else σC.1 5 (Int.toNat (σM.1 1 c) * 8 + e)) ∧ -1 ≤ σC.1 5 (c * 8 + e) ∧ (0 ≤ σC.1 5 (c * 8 + e) → σC.1 5 (c * 8 + e) < σC.1 1 1 ∧ σC.1 4 (Int.toNat (σC.1 5 (c * 8 + e))) = e ∧ 0 ≤ σC.1 3 (Int.toNat (σC.1 5 (c * 8 + e))) ∧ σC.1 3 (Int.toNat (σC.1 5 (c * 8 + e))) ≤ c)
def PR5 (σC σM : Mm) : Prop := ∀ m : Nat, m < 12 → (0 ≤ σC.1 6 m ∧ σC.1 6 m ≤ σC.1 1 2) ∧ (σC.1 1 1 ≤ m → σC.1 6 m = 0) ∧ ((m : Int) < σC.1 1 1 → σM.1 4 m = σC.1 6 m ∧ ∀ p : Nat, (p : Int) < σC.1 6 m → σM.1 5 (m * 90 + p) = σC.1 7 (m * 90 + p) ∧ (0 ≤ σC.1 7 (m * 90 + p) ∧ σC.1 7 (m * 90 + p) < σC.1 1 2) ∧ σC.1 13 (Int.toNat (σC.1 7 (m * 90 + p))) = m ∧ σC.1 14 (Int.toNat (σC.1 7 (m * 90 + p))) = p)
/-- the numbers of a STEP -/
def okS (nC nM : Int) (mc : Nat → Int) (k a b c d : Int) : Prop := (0 ≤ k ∧ k ≤ 16) ∧ (k ≠ 12 → 0 ≤ a ∧ a < 6) ∧ (k = 0 ∨ k = 1 → 0 ≤ b ∧ b < nC) ∧ (k = 1 → 0 ≤ c ∧ c ≤ 5) ∧ (k = 2 ∨ k = 4 ∨ k = 5 ∨ k = 6 ∨ k = 7 ∨ k = 8 ∨ k = 9 → 0 ≤ b ∧ b < 6) ∧ (k = 4 ∨ k = 5 ∨ k = 13 ∨ k = 14 → 0 ≤ c ∧ c < 4) ∧ (k = 6 ∨ k = 7 ∨ k = 9 → 0 ≤ c ∧ c < 8) ∧ (k = 8 ∨ k = 16 → 0 ≤ c ∧ c < nC) ∧ (k = 9 ∨ k = 10 → 0 ≤ d ∧ d < 6) ∧ (k = 10 → 0 ≤ c ∧ c < nM ∧ mc (Int.toNat c) < 0) ∧ (k = 12 ∨ k = 16 → 1 ≤ b ∧ b ≤ 30)
def PR6 (σC σM : Mm) : Prop := ∀ s : Nat, (s : Int) < σC.1 1 2 → (σM.1 6 s = σC.1 13 s ∧ σM.1 7 s = σC.1 14 s ∧ σM.1 8 s = σC.1 8 s ∧ σM.1 9 s = σC.1 9 s ∧ σM.1 10 s = σC.1 10 s ∧ σM.1 11 s = σC.1 11 s ∧ σM.1 12 s = σC.1 12 s) ∧ (0 ≤ σC.1 13 s ∧ σC.1 13 s < σC.1 1 1) ∧ (0 ≤ σC.1 14 s ∧ σC.1 14 s < σC.1 6 (Int.toNat (σC.1 13 s))) ∧ σC.1 7 (Int.toNat (σC.1 13 s) * 90 + Int.toNat (σC.1 14 s)) = s ∧ okS (σC.1 1 0) (σC.1 1 1) (σC.1 3) (σC.1 8 s) (σC.1 9 s) (σC.1 10 s) (σC.1 11 s) (σC.1 12 s)
def cntK (f : Nat → Int) : Nat → Int
  | 0 => 0
  | n + 1 => cntK f n + if f n ≤ 1 then 1 else 0
def PR7 (σC : Mm) : Prop := σC.1 1 3 = cntK (σC.1 8) (Int.toNat (σC.1 1 2))
def PR (σC σM : Mm) : Prop := PR1 σC σM ∧ PR2 σC σM ∧ PR3 σC σM ∧ PR4 σC σM ∧ PR5 σC σM ∧ PR6 σC σM ∧ PR7 σC
theorem PR_congr {σC σM σC' σM' : Mm} (h : PR σC σM) (hC : ∀ k, 1 ≤ k → k ≤ 14 → σC'.1 k = σC.1 k) (hM : ∀ k, 1 ≤ k → k ≤ 12 → σM'.1 k = σM.1 k) (h0 : σM'.1 0 0 = σM.1 0 0) (h2 : σM'.1 0 2 = σM.1 0 2) (h7 : σM'.1 0 7 = σM.1 0 7) (h8 : σM'.1 0 8 = σM.1 0 8) : PR σC' σM' := by
  have c1 := hC 1 (by omega) (by omega); have c2 := hC 2 (by omega) (by omega); have c3 := hC 3 (by omega) (by omega); have c4 := hC 4 (by omega) (by omega); have c5 := hC 5 (by omega) (by omega); have c6 := hC 6 (by omega) (by omega); have c7 := hC 7 (by omega) (by omega)
  have c8 := hC 8 (by omega) (by omega); have c9 := hC 9 (by omega) (by omega); have c10 := hC 10 (by omega) (by omega); have c11 := hC 11 (by omega) (by omega); have c12 := hC 12 (by omega) (by omega); have c13 := hC 13 (by omega) (by omega); have c14 := hC 14 (by omega) (by omega)
  have m1 := hM 1 (by omega) (by omega); have m2 := hM 2 (by omega) (by omega); have m3 := hM 3 (by omega) (by omega); have m4 := hM 4 (by omega) (by omega); have m5 := hM 5 (by omega) (by omega); have m6 := hM 6 (by omega) (by omega); have m7 := hM 7 (by omega) (by omega)
  have m8 := hM 8 (by omega) (by omega); have m9 := hM 9 (by omega) (by omega); have m10 := hM 10 (by omega) (by omega); have m11 := hM 11 (by omega) (by omega); have m12 := hM 12 (by omega) (by omega)
  simpa only [PR, PR1, PR2, PR3, PR4, PR5, PR6, PR7, c1, c2, c3, c4, c5, c6, c7, c8, c9, c10, c11, c12, c13, c14, m1, m2, m3, m4, m5, m6, m7, m8, m9, m10, m11, m12, h0, h2, h7, h8] using h
/-! small questions of the class -/
theorem e_isIn (x n : Int) (σ : Mm) : f_X6_isIn x n σ = some (b01 (0 ≤ x ∧ x < n)) := by
  unfold f_X6_isIn b01
  by_cases h1 : x < 0
  · rw [if_pos h1, if_neg (by omega)]
  · rw [if_neg h1]
    by_cases h2 : n ≤ x
    · rw [if_pos h2, if_neg (by omega)]
    · rw [if_neg h2, if_pos (by omega)]
theorem e_isClass (x : Int) (σ : Mm) : f_X3_isClass x σ = some (b01 (0 ≤ x ∧ x < σ.1 1 0)) := by
  unfold f_X3_isClass
  rw [e_isIn, bind_s, ck_pos b01_z]
theorem e_isMethod (x : Int) (σ : Mm) : f_X3_isMethod x σ = some (b01 (0 ≤ x ∧ x < σ.1 1 1)) := by
  unfold f_X3_isMethod
  rw [e_isIn, bind_s, ck_pos b01_z]
theorem e_isStatic (x : Int) {σ : Mm} (h : σ.1 1 1 ≤ 12) : f_X3_isStatic x σ = some (b01 (0 ≤ x ∧ x < σ.1 1 1 ∧ σ.1 3 (Int.toNat x) < 0)) := by
  unfold f_X3_isStatic
  rw [e_isMethod, bind_s]
  by_cases h1 : 0 ≤ x ∧ x < σ.1 1 1
  · rw [b01_t h1, if_neg (by omega), ck_pos (by omega)]
    by_cases h2 : 0 ≤ σ.1 3 (Int.toNat x)
    · rw [if_pos h2, b01_f (by omega)]
    · rw [if_neg h2, b01_t (by omega)]
  · rw [b01_f h1, if_pos rfl, b01_f (by omega)]
theorem e_isLeading (x : Int) {σ : Mm} (h : σ.1 1 2 ≤ 90) : f_X3_isLeading x σ = some (b01 (0 ≤ x ∧ x < σ.1 1 2 ∧ (σ.1 8 (Int.toNat x) = 9 ∨ σ.1 8 (Int.toNat x) = 10))) := by
  unfold f_X3_isLeading
  rw [e_isIn, bind_s]
  by_cases h1 : 0 ≤ x ∧ x < σ.1 1 2
  · rw [b01_t h1, if_neg (by omega), ck_pos (by omega)]
    by_cases h2 : σ.1 8 (Int.toNat x) = 9
    · rw [if_pos h2, b01_t (by omega)]
    · rw [if_neg h2, ck_pos (by omega)]
      by_cases h3 : σ.1 8 (Int.toNat x) = 10
      · rw [if_pos h3, b01_t (by omega)]
      · rw [if_neg h3, b01_f (by omega)]
  · rw [b01_f h1, if_pos rfl, b01_f (by omega)]
/-! and of the reference -/
theorem g_in (x lo hi : Int) (σ : Mm) : f_X7_in x lo hi σ = some (b01 (lo ≤ x ∧ x ≤ hi)) := by
  unfold f_X7_in b01
  by_cases h1 : x < lo
  · rw [if_pos h1, if_neg (by omega)]
  · rw [if_neg h1]
    by_cases h2 : hi < x
    · rw [if_pos h2, if_neg (by omega)]
    · rw [if_neg h2, if_pos (by omega)]
theorem g_isVar (x : Int) (σ : Mm) : f_X7_isVar x σ = some (b01 (0 ≤ x ∧ x ≤ 5)) := by
  unfold f_X7_isVar
  rw [g_in, bind_s, ck_pos b01_z]
theorem g_isClass (x : Int) {σ : Mm} (h : 1 ≤ σ.1 0 0 ∧ σ.1 0 0 ≤ 10) : f_X7_isClass x σ = some (b01 (0 ≤ x ∧ x ≤ σ.1 0 0 - 1)) := by
  unfold f_X7_isClass
  rw [ck_pos (by omega), g_in, bind_s, ck_pos b01_z]
theorem g_isStatic (x : Int) {σ : Mm} (h : 0 ≤ σ.1 0 2 ∧ σ.1 0 2 ≤ 12) : f_X7_isStatic x σ = some (b01 (0 ≤ x ∧ x < σ.1 0 2 ∧ σ.1 2 (Int.toNat x) < 0)) := by
  unfold f_X7_isStatic
  rw [ck_pos (by omega), g_in, bind_s]
  by_cases h1 : 0 ≤ x ∧ x ≤ σ.1 0 2 - 1
  · rw [b01_t h1, if_neg (by omega), ck_pos (by omega)]
    by_cases h2 : 0 ≤ σ.1 2 (Int.toNat x)
    · rw [if_pos h2, b01_f (by omega)]
    · rw [if_neg h2, b01_t (by omega)]
  · rw [b01_f h1, if_pos rfl, b01_f (by omega)]
/-- whether a CLASS lies below another, by the class's bits -/
def blw (σC : Mm) (c d : Nat) : Bool := ib (σC.1 2 c) d
theorem e_liesBelow {σ : Mm} {c d : Nat} (hc : c < 10) (hd : d < 32) : f_X3_liesBelow c d σ = some (b01 (blw σ c d = true)) := by
  unfold f_X3_liesBelow
  rw [ck_pos (by omega), Int.toNat_natCast, ibit _ hd]
  unfold blw
  cases ib (σ.1 2 c) d
  · rw [if_pos (by rfl)]; rfl
  · rw [if_neg (by decide)]; rfl
theorem g_isBelow_aux {σC σM : Mm} (h2 : PR2 σC σM) (hn : σC.1 1 0 ≤ 10) {d : Nat} (hd : d < 10) : ∀ (n f c : Nat), c < n → (c : Int) < σC.1 1 0 → c + 1 < f → f_X7_isBelow_2 f d c σM = some (b01 (blw σC c d = true)) := by
  intro n
  induction n with
  | zero => intro f c h; omega
  | succ n ih =>
    intro f c hcn hc hf
    obtain ⟨f, rfl⟩ : ∃ g, f = g + 1 := ⟨f - 1, by omega⟩
    obtain ⟨ha, hb⟩ := h2.2 c hc
    have hb := hb d hd
    rw [f_X7_isBelow_2, if_neg (by omega)]
    by_cases he : (c : Int) = d
    · rw [if_pos he, if_neg (by omega)]
      have : blw σC c d = true := by unfold blw; rw [hb]; simp [show d = c by omega]
      rw [b01_t this]
    · rw [if_neg he, ck_pos (by omega), Int.toNat_natCast]
      by_cases h0 : c = 0
      · subst h0
        rw [h2.1]
        obtain ⟨f, rfl⟩ : ∃ g, f = g + 1 := ⟨f - 1, by omega⟩
        rw [f_X7_isBelow_2, if_pos (by omega), if_pos (by omega)]
        have : ¬ blw σC 0 d = true := by unfold blw; rw [hb]; simp; omega
        rw [b01_f this]
      · obtain ⟨a1, a2⟩ := ha (by omega)
        have e : σM.1 1 c = ((Int.toNat (σM.1 1 c) : Nat) : Int) := by omega
        rw [e, ih f (Int.toNat (σM.1 1 c)) (by omega) (by omega) (by omega)]
        have : (blw σC (Int.toNat (σM.1 1 c)) d = true) = (blw σC c d = true) := by
          unfold blw
          rw [hb]
          simp [show ¬ d = c by omega, show 0 < c by omega]
        simp only [this]
theorem g_isBelow {σC σM : Mm} (h2 : PR2 σC σM) (hn : σC.1 1 0 ≤ 10) {c d : Nat} (hc : (c : Int) < σC.1 1 0) (hd : d < 10) : f_X7_isBelow c d σM = some (b01 (blw σC c d = true)) := by
  unfold f_X7_isBelow
  exact g_isBelow_aux h2 hn hd (c + 1) 2000 c (by omega) hc (by omega)
theorem blw_le {σC σM : Mm} (h2 : PR2 σC σM) (hn : σC.1 1 0 ≤ 10) {d : Nat} (hd : d < 10) : ∀ (n c : Nat), c < n → (c : Int) < σC.1 1 0 → blw σC c d = true → d ≤ c := by
  intro n
  induction n with
  | zero => intro c h; omega
  | succ n ih =>
    intro c hcn hc hb
    obtain ⟨ha, hb2⟩ := h2.2 c hc
    have hb2 := hb2 d hd
    unfold blw at hb
    rw [hb2] at hb
    by_cases h0 : d = c
    · omega
    · simp only [h0, decide_false, Bool.false_or, Bool.and_eq_true, decide_eq_true_eq] at hb
      obtain ⟨a1, a2⟩ := ha hb.1
      have := ih (Int.toNat (σM.1 1 c)) (by omega) (by omega) hb.2
      omega
/-! the METHOD that is meant -/
theorem e_methodFor {σ : Mm} {c e : Nat} (hc : c < 10) (he : e < 8) : f_X3_methodFor c e σ = some (σ.1 5 (c * 8 + e)) := by
  unfold f_X3_methodFor
  rw [ck_pos (by omega)]
  congr 2
theorem g_mf_inner {σC σM : Mm} (h1 : PR1 σC σM) (h3 : PR3 σC σM) (k2 : Int → Int → Mm → Option Int) {c e : Nat} (hc : c < 10) (he : e < 8) : ∀ (n f j : Nat), (j : Int) + n = σC.1 1 1 → n < f → (∀ m : Nat, m < j → ¬ (σC.1 3 m = c ∧ σC.1 4 m = e)) → ((∀ m : Nat, (m : Int) < σC.1 1 1 → ¬ (σC.1 3 m = c ∧ σC.1 4 m = e)) ∧ f_X7_methodFor_9 k2 f e c j σM = k2 e (σM.1 1 c) σM) ∨ ∃ m : Nat, (m : Int) < σC.1 1 1 ∧ σC.1 3 m = c ∧ σC.1 4 m = e ∧ f_X7_methodFor_9 k2 f e c j σM = some (m : Int) := by
  obtain ⟨-, hm, -, -, -, hme, -⟩ := h1
  intro n
  induction n with
  | zero =>
    intro f j hj hf hno
    obtain ⟨f, rfl⟩ : ∃ g, f = g + 1 := ⟨f - 1, by omega⟩
    left
    refine ⟨fun m hm => hno m (by omega), ?_⟩
    rw [f_X7_methodFor_9, if_pos (by omega), ck_pos (by omega), Int.toNat_natCast]
  | succ n ih =>
    intro f j hj hf hno
    obtain ⟨f, rfl⟩ : ∃ g, f = g + 1 := ⟨f - 1, by omega⟩
    obtain ⟨⟨q1, q2⟩, -⟩ := h3 j (by omega)
    rw [f_X7_methodFor_9, if_neg (by omega), ck_pos (by omega), Int.toNat_natCast, q1]
    have hnext : ¬ (σC.1 3 j = c ∧ σC.1 4 j = e) → ck (inR ((j : Int) + 1)) (f_X7_methodFor_9 k2 f e c ((j : Int) + 1) σM) = f_X7_methodFor_9 k2 f e c ((j + 1 : Nat) : Int) σM := fun _ => by rw [ck_pos (by omega)]; rfl
    by_cases hx : σC.1 3 j = c
    · rw [if_pos hx, ck_pos (by omega), q2]
      by_cases hy : σC.1 4 j = e
      · right
        rw [if_pos hy]
        exact ⟨j, by omega, hx, hy, rfl⟩
      · rw [if_neg hy, hnext (by omega)]
        exact ih f (j + 1) (by omega) (by omega) (fun m hm => by
          by_cases hmj : m = j
          · subst hmj; omega
          · exact hno m (by omega))
    · rw [if_neg hx, hnext (by omega)]
      exact ih f (j + 1) (by omega) (by omega) (fun m hm => by
        by_cases hmj : m = j
        · subst hmj; omega
        · exact hno m (by omega))
theorem g_mf_aux {σC σM : Mm} (h1 : PR1 σC σM) (h2 : PR2 σC σM) (h3 : PR3 σC σM) (h4 : PR4 σC σM) {e : Nat} (he : e < 8) : ∀ (n f c : Nat), c < n → (c : Int) < σC.1 1 0 → c + 1 < f → f_X7_methodFor_2 f e c σM = some (σC.1 5 (c * 8 + e)) := by
  intro n
  induction n with
  | zero => intro f c h; omega
  | succ n ih =>
    intro f c hcn hc hf
    obtain ⟨f, rfl⟩ : ∃ g, f = g + 1 := ⟨f - 1, by omega⟩
    obtain ⟨⟨-, hc10⟩, hmm, -⟩ := id h1
    rw [f_X7_methodFor_2, if_neg (by omega)]
    obtain ⟨p1, p2, -⟩ := h4 c e hc he
    have hm0 : ((σC.1 1 1).toNat : Int) = σC.1 1 1 := by omega
    rcases g_mf_inner h1 h3 (f_X7_methodFor_2 f) (c := c) (e := e) (by omega) he (σC.1 1 1).toNat 2000 0 (by omega) (by omega) (fun m hm => by omega) with ⟨hno, hq⟩ | ⟨m, hm, m1, m2, hq⟩
    · rw [show ((0 : Nat) : Int) = 0 from rfl] at hq
      rw [hq, p2 hno]
      by_cases h0 : c = 0
      · subst h0
        rw [if_pos rfl, h2.1]
        obtain ⟨f, rfl⟩ : ∃ g, f = g + 1 := ⟨f - 1, by omega⟩
        rw [f_X7_methodFor_2, if_pos (by omega)]
      · obtain ⟨a1, a2⟩ := (h2.2 c hc).1 (by omega)
        rw [if_neg h0]
        have ea : σM.1 1 c = ((Int.toNat (σM.1 1 c) : Nat) : Int) := by omega
        rw [ea, ih f (Int.toNat (σM.1 1 c)) (by omega) (by omega) (by omega)]
        rfl
    · rw [show ((0 : Nat) : Int) = 0 from rfl] at hq
      rw [hq, p1 m hm m1 m2]
theorem g_methodFor {σC σM : Mm} (h1 : PR1 σC σM) (h2 : PR2 σC σM) (h3 : PR3 σC σM) (h4 : PR4 σC σM) {c e : Nat} (hc : (c : Int) < σC.1 1 0) (he : e < 8) : f_X7_methodFor c e σM = some (σC.1 5 (c * 8 + e)) := by
  obtain ⟨⟨-, hc10⟩, -⟩ := id h1
  unfold f_X7_methodFor
  exact g_mf_aux h1 h2 h3 h4 he (c + 1) 2000 c (by omega) hc (by omega)
