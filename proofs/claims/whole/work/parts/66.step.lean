/-! step: the numbers, KIND by KIND -/
theorem b_if {α : Type} {P : Prop} [Decidable P] {X : Option α} {Y : Int → Option α} : (some (b01 P)).bind (fun r => if r = 0 then X else Y r) = if P then Y 1 else X := by
  by_cases h : P
  · rw [b01_t h, bind_s, if_neg (by decide), if_pos h]
  · rw [b01_f h, bind_s, if_pos rfl, if_neg h]
theorem bck {P : Prop} [Decidable P] : (some (b01 P)).bind (fun r => ck (r = 0 ∨ r = 1) (some r)) = some (b01 P) := by
  rw [bind_s, ck_pos b01_z]
theorem b01_c {P Q : Prop} [Decidable P] [Decidable Q] (h : P ↔ Q) : b01 P = b01 Q := by
  by_cases hp : P
  · rw [b01_t hp, b01_t (h.mp hp)]
  · rw [b01_f hp, b01_f (fun q => hp (h.mpr q))]
theorem os_0 {σ : Mm} {x : Int} : f_X3_isOfSort 0 x σ = some 1 := by
  unfold f_X3_isOfSort
  rw [if_neg (by decide)]
  rw [if_neg (by decide)]
  rw [if_neg (by decide)]
  rw [if_neg (by decide)]
  rw [if_neg (by decide)]
  rw [if_neg (by decide)]
  rw [if_neg (by decide)]
  rw [if_neg (by decide)]
  rw [if_neg (by decide)]
theorem os_1 {σ : Mm} {x : Int} : f_X3_isOfSort 1 x σ = some (b01 (0 ≤ x ∧ x < 6)) := by
  unfold f_X3_isOfSort
  rw [if_pos rfl]
  rw [e_isIn, bck]
theorem os_2 {σ : Mm} {x : Int} : f_X3_isOfSort 2 x σ = some (b01 (0 ≤ x ∧ x < σ.1 1 0)) := by
  unfold f_X3_isOfSort
  rw [if_neg (by decide)]
  rw [if_pos rfl]
  rw [e_isClass, bck]
theorem os_3 {σ : Mm} {x : Int} : f_X3_isOfSort 3 x σ = some (b01 (0 ≤ x ∧ x < 4)) := by
  unfold f_X3_isOfSort
  rw [if_neg (by decide)]
  rw [if_neg (by decide)]
  rw [if_pos rfl]
  rw [e_isIn, bck]
theorem os_4 {σ : Mm} {x : Int} : f_X3_isOfSort 4 x σ = some (b01 (0 ≤ x ∧ x < 8)) := by
  unfold f_X3_isOfSort
  rw [if_neg (by decide)]
  rw [if_neg (by decide)]
  rw [if_neg (by decide)]
  rw [if_pos rfl]
  rw [e_isIn, bck]
theorem os_5 {σ : Mm} {x : Int} : f_X3_isOfSort 5 x σ = some (b01 (0 ≤ x ∧ x < 6)) := by
  unfold f_X3_isOfSort
  rw [if_neg (by decide)]
  rw [if_neg (by decide)]
  rw [if_neg (by decide)]
  rw [if_neg (by decide)]
  rw [if_pos rfl]
  rw [e_isIn, bck]
theorem os_6 {σ : Mm} {x : Int} : f_X3_isOfSort 6 x σ = some (b01 (0 ≤ x ∧ x < 8)) := by
  unfold f_X3_isOfSort
  rw [if_neg (by decide)]
  rw [if_neg (by decide)]
  rw [if_neg (by decide)]
  rw [if_neg (by decide)]
  rw [if_neg (by decide)]
  rw [if_pos rfl]
  rw [e_isIn, bck]
theorem os_7 {σ : Mm} (h : σ.1 1 1 ≤ 12) {x : Int} : f_X3_isOfSort 7 x σ = some (b01 (0 ≤ x ∧ x < σ.1 1 1 ∧ σ.1 3 (Int.toNat x) < 0)) := by
  unfold f_X3_isOfSort
  rw [if_neg (by decide)]
  rw [if_neg (by decide)]
  rw [if_neg (by decide)]
  rw [if_neg (by decide)]
  rw [if_neg (by decide)]
  rw [if_neg (by decide)]
  rw [if_pos rfl]
  rw [e_isStatic x h, bck]
theorem os_8 {σ : Mm} {x : Int} : f_X3_isOfSort 8 x σ = some (b01 (1 ≤ x ∧ x ≤ 30)) := by
  unfold f_X3_isOfSort
  rw [if_neg (by decide)]
  rw [if_neg (by decide)]
  rw [if_neg (by decide)]
  rw [if_neg (by decide)]
  rw [if_neg (by decide)]
  rw [if_neg (by decide)]
  rw [if_neg (by decide)]
  rw [if_pos rfl]
  by_cases h1 : x < 1
  · rw [if_pos h1, b01_f (by omega)]
  · rw [if_neg h1]
    by_cases h2 : 30 < x
    · rw [if_pos h2, b01_f (by omega)]
    · rw [if_neg h2, b01_t (by omega)]
theorem os_9 {σ : Mm} {x : Int} : f_X3_isOfSort 9 x σ = some (b01 (0 ≤ x ∧ x < 4)) := by
  unfold f_X3_isOfSort
  rw [if_neg (by decide)]
  rw [if_neg (by decide)]
  rw [if_neg (by decide)]
  rw [if_neg (by decide)]
  rw [if_neg (by decide)]
  rw [if_neg (by decide)]
  rw [if_neg (by decide)]
  rw [if_neg (by decide)]
  rw [if_pos rfl]
  rw [e_isIn, bck]
/-- the rest of C's step, behind the questions -/
def stRest (x1 x2 x3 x4 x5 x6 : Int) (σ : Mm) : Option (Int × Mm) := (f_X3_hasRoomFor x2 σ).bind (fun r26 => (if r26 = 0 then some ((-3), σ) else (f_X3_addStep x1 x2 σ).bind (fun r30 => (f_X3_tellNumbers r30.1 x3 x4 x5 x6 r30.2).bind (fun r33 => (f_X6_changed r30.1 r33).bind (fun r36 => some (r36.1, r36.2))))))
theorem okS_0 {σ : Mm} {a b c d : Int} : okS (σ.1 1 0) (σ.1 1 1) (σ.1 3) 0 a b c d ↔ (0 ≤ a ∧ a < 6) ∧ (0 ≤ b ∧ b < σ.1 1 0) := by
  constructor <;> intro z <;> simp [okS] at z ⊢ <;> omega
theorem okS_1 {σ : Mm} {a b c d : Int} : okS (σ.1 1 0) (σ.1 1 1) (σ.1 3) 1 a b c d ↔ (0 ≤ a ∧ a < 6) ∧ (0 ≤ b ∧ b < σ.1 1 0) ∧ (0 ≤ c ∧ c < 6) := by
  constructor <;> intro z <;> simp [okS] at z ⊢ <;> omega
theorem okS_2 {σ : Mm} {a b c d : Int} : okS (σ.1 1 0) (σ.1 1 1) (σ.1 3) 2 a b c d ↔ (0 ≤ a ∧ a < 6) ∧ (0 ≤ b ∧ b < 6) := by
  constructor <;> intro z <;> simp [okS] at z ⊢ <;> omega
theorem okS_3 {σ : Mm} {a b c d : Int} : okS (σ.1 1 0) (σ.1 1 1) (σ.1 3) 3 a b c d ↔ (0 ≤ a ∧ a < 6) := by
  constructor <;> intro z <;> simp [okS] at z ⊢ <;> omega
theorem okS_4 {σ : Mm} {a b c d : Int} : okS (σ.1 1 0) (σ.1 1 1) (σ.1 3) 4 a b c d ↔ (0 ≤ a ∧ a < 6) ∧ (0 ≤ b ∧ b < 6) ∧ (0 ≤ c ∧ c < 4) := by
  constructor <;> intro z <;> simp [okS] at z ⊢ <;> omega
theorem okS_5 {σ : Mm} {a b c d : Int} : okS (σ.1 1 0) (σ.1 1 1) (σ.1 3) 5 a b c d ↔ (0 ≤ a ∧ a < 6) ∧ (0 ≤ b ∧ b < 6) ∧ (0 ≤ c ∧ c < 4) := by
  constructor <;> intro z <;> simp [okS] at z ⊢ <;> omega
theorem okS_6 {σ : Mm} {a b c d : Int} : okS (σ.1 1 0) (σ.1 1 1) (σ.1 3) 6 a b c d ↔ (0 ≤ a ∧ a < 6) ∧ (0 ≤ b ∧ b < 6) ∧ (0 ≤ c ∧ c < 8) := by
  constructor <;> intro z <;> simp [okS] at z ⊢ <;> omega
theorem okS_7 {σ : Mm} {a b c d : Int} : okS (σ.1 1 0) (σ.1 1 1) (σ.1 3) 7 a b c d ↔ (0 ≤ a ∧ a < 6) ∧ (0 ≤ b ∧ b < 6) ∧ (0 ≤ c ∧ c < 8) := by
  constructor <;> intro z <;> simp [okS] at z ⊢ <;> omega
theorem okS_8 {σ : Mm} {a b c d : Int} : okS (σ.1 1 0) (σ.1 1 1) (σ.1 3) 8 a b c d ↔ (0 ≤ a ∧ a < 6) ∧ (0 ≤ b ∧ b < 6) ∧ (0 ≤ c ∧ c < σ.1 1 0) := by
  constructor <;> intro z <;> simp [okS] at z ⊢ <;> omega
theorem okS_9 {σ : Mm} {a b c d : Int} : okS (σ.1 1 0) (σ.1 1 1) (σ.1 3) 9 a b c d ↔ (0 ≤ a ∧ a < 6) ∧ (0 ≤ b ∧ b < 6) ∧ (0 ≤ c ∧ c < 8) ∧ (0 ≤ d ∧ d < 6) := by
  constructor <;> intro z <;> simp [okS] at z ⊢ <;> omega
theorem okS_10 {σ : Mm} {a b c d : Int} : okS (σ.1 1 0) (σ.1 1 1) (σ.1 3) 10 a b c d ↔ (0 ≤ a ∧ a < 6) ∧ (0 ≤ c ∧ c < σ.1 1 1 ∧ σ.1 3 (Int.toNat c) < 0) ∧ (0 ≤ d ∧ d < 6) := by
  constructor <;> intro z <;> simp [okS] at z ⊢ <;> omega
theorem okS_11 {σ : Mm} {a b c d : Int} : okS (σ.1 1 0) (σ.1 1 1) (σ.1 3) 11 a b c d ↔ (0 ≤ a ∧ a < 6) := by
  constructor <;> intro z <;> simp [okS] at z ⊢ <;> omega
theorem okS_12 {σ : Mm} {a b c d : Int} : okS (σ.1 1 0) (σ.1 1 1) (σ.1 3) 12 a b c d ↔ (1 ≤ b ∧ b ≤ 30) := by
  constructor <;> intro z <;> simp [okS] at z ⊢ <;> omega
theorem okS_13 {σ : Mm} {a b c d : Int} : okS (σ.1 1 0) (σ.1 1 1) (σ.1 3) 13 a b c d ↔ (0 ≤ a ∧ a < 6) ∧ (0 ≤ c ∧ c < 4) := by
  constructor <;> intro z <;> simp [okS] at z ⊢ <;> omega
theorem okS_14 {σ : Mm} {a b c d : Int} : okS (σ.1 1 0) (σ.1 1 1) (σ.1 3) 14 a b c d ↔ (0 ≤ a ∧ a < 6) ∧ (0 ≤ c ∧ c < 4) := by
  constructor <;> intro z <;> simp [okS] at z ⊢ <;> omega
theorem okS_15 {σ : Mm} {a b c d : Int} : okS (σ.1 1 0) (σ.1 1 1) (σ.1 3) 15 a b c d ↔ (0 ≤ a ∧ a < 6) := by
  constructor <;> intro z <;> simp [okS] at z ⊢ <;> omega
theorem okS_16 {σ : Mm} {a b c d : Int} : okS (σ.1 1 0) (σ.1 1 1) (σ.1 3) 16 a b c d ↔ (0 ≤ a ∧ a < 6) ∧ (1 ≤ b ∧ b ≤ 30) ∧ (0 ≤ c ∧ c < σ.1 1 0) := by
  constructor <;> intro z <;> simp [okS] at z ⊢ <;> omega
theorem e_step_0 {σ : Mm} {x a b c d : Int} (h12 : σ.1 1 1 ≤ 12) [Decidable (okS (σ.1 1 0) (σ.1 1 1) (σ.1 3) 0 a b c d)] : f_X6_step x 0 a b c d σ = if 0 ≤ x ∧ x < σ.1 1 1 then if okS (σ.1 1 0) (σ.1 1 1) (σ.1 3) 0 a b c d then stRest x 0 a b c d σ else some (-1, σ) else some (-1, σ) := by
  unfold f_X6_step
  rw [e_isMethod, b_if]
  by_cases hm : 0 ≤ x ∧ x < σ.1 1 1
  · rw [if_pos hm, if_pos hm]
    rw [e_isIn, b01_t (by decide), bind_s, if_neg (by decide), ck_pos (by decide), ck_pos (by decide)]
    rw [show sortsT (Int.toNat (4 * 0)) = 1 by decide]
    rw [os_1, b_if]
    by_cases h0 : (0 ≤ a ∧ a < 6)
    · rw [if_pos h0]
      rw [ck_pos (by decide)]
      rw [show sortsT (Int.toNat (4 * 0 + 1)) = 2 by decide]
      rw [os_2, b_if]
      by_cases h1 : (0 ≤ b ∧ b < σ.1 1 0)
      · rw [if_pos h1]
        rw [ck_pos (by decide)]
        rw [show sortsT (Int.toNat (4 * 0 + 2)) = 0 by decide]
        rw [os_0, bind_s, if_neg (by decide)]
        rw [ck_pos (by decide)]
        rw [show sortsT (Int.toNat (4 * 0 + 3)) = 0 by decide]
        rw [os_0, bind_s, if_neg (by decide)]
        rw [if_pos (okS_0.mpr ⟨h0, h1⟩)]
        rfl
      · rw [if_neg h1, if_neg (fun z => h1 (okS_0.mp z).2)]
    · rw [if_neg h0, if_neg (fun z => h0 (okS_0.mp z).1)]
  · rw [if_neg hm, if_neg hm]
theorem e_step_1 {σ : Mm} {x a b c d : Int} (h12 : σ.1 1 1 ≤ 12) [Decidable (okS (σ.1 1 0) (σ.1 1 1) (σ.1 3) 1 a b c d)] : f_X6_step x 1 a b c d σ = if 0 ≤ x ∧ x < σ.1 1 1 then if okS (σ.1 1 0) (σ.1 1 1) (σ.1 3) 1 a b c d then stRest x 1 a b c d σ else some (-1, σ) else some (-1, σ) := by
  unfold f_X6_step
  rw [e_isMethod, b_if]
  by_cases hm : 0 ≤ x ∧ x < σ.1 1 1
  · rw [if_pos hm, if_pos hm]
    rw [e_isIn, b01_t (by decide), bind_s, if_neg (by decide), ck_pos (by decide), ck_pos (by decide)]
    rw [show sortsT (Int.toNat (4 * 1)) = 1 by decide]
    rw [os_1, b_if]
    by_cases h0 : (0 ≤ a ∧ a < 6)
    · rw [if_pos h0]
      rw [ck_pos (by decide)]
      rw [show sortsT (Int.toNat (4 * 1 + 1)) = 2 by decide]
      rw [os_2, b_if]
      by_cases h1 : (0 ≤ b ∧ b < σ.1 1 0)
      · rw [if_pos h1]
        rw [ck_pos (by decide)]
        rw [show sortsT (Int.toNat (4 * 1 + 2)) = 5 by decide]
        rw [os_5, b_if]
        by_cases h2 : (0 ≤ c ∧ c < 6)
        · rw [if_pos h2]
          rw [ck_pos (by decide)]
          rw [show sortsT (Int.toNat (4 * 1 + 3)) = 0 by decide]
          rw [os_0, bind_s, if_neg (by decide)]
          rw [if_pos (okS_1.mpr ⟨h0, h1, h2⟩)]
          rfl
        · rw [if_neg h2, if_neg (fun z => h2 (okS_1.mp z).2.2)]
      · rw [if_neg h1, if_neg (fun z => h1 (okS_1.mp z).2.1)]
    · rw [if_neg h0, if_neg (fun z => h0 (okS_1.mp z).1)]
  · rw [if_neg hm, if_neg hm]
theorem e_step_2 {σ : Mm} {x a b c d : Int} (h12 : σ.1 1 1 ≤ 12) [Decidable (okS (σ.1 1 0) (σ.1 1 1) (σ.1 3) 2 a b c d)] : f_X6_step x 2 a b c d σ = if 0 ≤ x ∧ x < σ.1 1 1 then if okS (σ.1 1 0) (σ.1 1 1) (σ.1 3) 2 a b c d then stRest x 2 a b c d σ else some (-1, σ) else some (-1, σ) := by
  unfold f_X6_step
  rw [e_isMethod, b_if]
  by_cases hm : 0 ≤ x ∧ x < σ.1 1 1
  · rw [if_pos hm, if_pos hm]
    rw [e_isIn, b01_t (by decide), bind_s, if_neg (by decide), ck_pos (by decide), ck_pos (by decide)]
    rw [show sortsT (Int.toNat (4 * 2)) = 1 by decide]
    rw [os_1, b_if]
    by_cases h0 : (0 ≤ a ∧ a < 6)
    · rw [if_pos h0]
      rw [ck_pos (by decide)]
      rw [show sortsT (Int.toNat (4 * 2 + 1)) = 1 by decide]
      rw [os_1, b_if]
      by_cases h1 : (0 ≤ b ∧ b < 6)
      · rw [if_pos h1]
        rw [ck_pos (by decide)]
        rw [show sortsT (Int.toNat (4 * 2 + 2)) = 0 by decide]
        rw [os_0, bind_s, if_neg (by decide)]
        rw [ck_pos (by decide)]
        rw [show sortsT (Int.toNat (4 * 2 + 3)) = 0 by decide]
        rw [os_0, bind_s, if_neg (by decide)]
        rw [if_pos (okS_2.mpr ⟨h0, h1⟩)]
        rfl
      · rw [if_neg h1, if_neg (fun z => h1 (okS_2.mp z).2)]
    · rw [if_neg h0, if_neg (fun z => h0 (okS_2.mp z).1)]
  · rw [if_neg hm, if_neg hm]
theorem e_step_3 {σ : Mm} {x a b c d : Int} (h12 : σ.1 1 1 ≤ 12) [Decidable (okS (σ.1 1 0) (σ.1 1 1) (σ.1 3) 3 a b c d)] : f_X6_step x 3 a b c d σ = if 0 ≤ x ∧ x < σ.1 1 1 then if okS (σ.1 1 0) (σ.1 1 1) (σ.1 3) 3 a b c d then stRest x 3 a b c d σ else some (-1, σ) else some (-1, σ) := by
  unfold f_X6_step
  rw [e_isMethod, b_if]
  by_cases hm : 0 ≤ x ∧ x < σ.1 1 1
  · rw [if_pos hm, if_pos hm]
    rw [e_isIn, b01_t (by decide), bind_s, if_neg (by decide), ck_pos (by decide), ck_pos (by decide)]
    rw [show sortsT (Int.toNat (4 * 3)) = 1 by decide]
    rw [os_1, b_if]
    by_cases h0 : (0 ≤ a ∧ a < 6)
    · rw [if_pos h0]
      rw [ck_pos (by decide)]
      rw [show sortsT (Int.toNat (4 * 3 + 1)) = 0 by decide]
      rw [os_0, bind_s, if_neg (by decide)]
      rw [ck_pos (by decide)]
      rw [show sortsT (Int.toNat (4 * 3 + 2)) = 0 by decide]
      rw [os_0, bind_s, if_neg (by decide)]
      rw [ck_pos (by decide)]
      rw [show sortsT (Int.toNat (4 * 3 + 3)) = 0 by decide]
      rw [os_0, bind_s, if_neg (by decide)]
      rw [if_pos (okS_3.mpr h0)]
      rfl
    · rw [if_neg h0, if_neg (fun z => h0 (okS_3.mp z))]
  · rw [if_neg hm, if_neg hm]
theorem e_step_4 {σ : Mm} {x a b c d : Int} (h12 : σ.1 1 1 ≤ 12) [Decidable (okS (σ.1 1 0) (σ.1 1 1) (σ.1 3) 4 a b c d)] : f_X6_step x 4 a b c d σ = if 0 ≤ x ∧ x < σ.1 1 1 then if okS (σ.1 1 0) (σ.1 1 1) (σ.1 3) 4 a b c d then stRest x 4 a b c d σ else some (-1, σ) else some (-1, σ) := by
  unfold f_X6_step
  rw [e_isMethod, b_if]
  by_cases hm : 0 ≤ x ∧ x < σ.1 1 1
  · rw [if_pos hm, if_pos hm]
    rw [e_isIn, b01_t (by decide), bind_s, if_neg (by decide), ck_pos (by decide), ck_pos (by decide)]
    rw [show sortsT (Int.toNat (4 * 4)) = 1 by decide]
    rw [os_1, b_if]
    by_cases h0 : (0 ≤ a ∧ a < 6)
    · rw [if_pos h0]
      rw [ck_pos (by decide)]
      rw [show sortsT (Int.toNat (4 * 4 + 1)) = 1 by decide]
      rw [os_1, b_if]
      by_cases h1 : (0 ≤ b ∧ b < 6)
      · rw [if_pos h1]
        rw [ck_pos (by decide)]
        rw [show sortsT (Int.toNat (4 * 4 + 2)) = 3 by decide]
        rw [os_3, b_if]
        by_cases h2 : (0 ≤ c ∧ c < 4)
        · rw [if_pos h2]
          rw [ck_pos (by decide)]
          rw [show sortsT (Int.toNat (4 * 4 + 3)) = 0 by decide]
          rw [os_0, bind_s, if_neg (by decide)]
          rw [if_pos (okS_4.mpr ⟨h0, h1, h2⟩)]
          rfl
        · rw [if_neg h2, if_neg (fun z => h2 (okS_4.mp z).2.2)]
      · rw [if_neg h1, if_neg (fun z => h1 (okS_4.mp z).2.1)]
    · rw [if_neg h0, if_neg (fun z => h0 (okS_4.mp z).1)]
  · rw [if_neg hm, if_neg hm]
theorem e_step_5 {σ : Mm} {x a b c d : Int} (h12 : σ.1 1 1 ≤ 12) [Decidable (okS (σ.1 1 0) (σ.1 1 1) (σ.1 3) 5 a b c d)] : f_X6_step x 5 a b c d σ = if 0 ≤ x ∧ x < σ.1 1 1 then if okS (σ.1 1 0) (σ.1 1 1) (σ.1 3) 5 a b c d then stRest x 5 a b c d σ else some (-1, σ) else some (-1, σ) := by
  unfold f_X6_step
  rw [e_isMethod, b_if]
  by_cases hm : 0 ≤ x ∧ x < σ.1 1 1
  · rw [if_pos hm, if_pos hm]
    rw [e_isIn, b01_t (by decide), bind_s, if_neg (by decide), ck_pos (by decide), ck_pos (by decide)]
    rw [show sortsT (Int.toNat (4 * 5)) = 1 by decide]
    rw [os_1, b_if]
    by_cases h0 : (0 ≤ a ∧ a < 6)
    · rw [if_pos h0]
      rw [ck_pos (by decide)]
      rw [show sortsT (Int.toNat (4 * 5 + 1)) = 1 by decide]
      rw [os_1, b_if]
      by_cases h1 : (0 ≤ b ∧ b < 6)
      · rw [if_pos h1]
        rw [ck_pos (by decide)]
        rw [show sortsT (Int.toNat (4 * 5 + 2)) = 3 by decide]
        rw [os_3, b_if]
        by_cases h2 : (0 ≤ c ∧ c < 4)
        · rw [if_pos h2]
          rw [ck_pos (by decide)]
          rw [show sortsT (Int.toNat (4 * 5 + 3)) = 0 by decide]
          rw [os_0, bind_s, if_neg (by decide)]
          rw [if_pos (okS_5.mpr ⟨h0, h1, h2⟩)]
          rfl
        · rw [if_neg h2, if_neg (fun z => h2 (okS_5.mp z).2.2)]
      · rw [if_neg h1, if_neg (fun z => h1 (okS_5.mp z).2.1)]
    · rw [if_neg h0, if_neg (fun z => h0 (okS_5.mp z).1)]
  · rw [if_neg hm, if_neg hm]
theorem e_step_6 {σ : Mm} {x a b c d : Int} (h12 : σ.1 1 1 ≤ 12) [Decidable (okS (σ.1 1 0) (σ.1 1 1) (σ.1 3) 6 a b c d)] : f_X6_step x 6 a b c d σ = if 0 ≤ x ∧ x < σ.1 1 1 then if okS (σ.1 1 0) (σ.1 1 1) (σ.1 3) 6 a b c d then stRest x 6 a b c d σ else some (-1, σ) else some (-1, σ) := by
  unfold f_X6_step
  rw [e_isMethod, b_if]
  by_cases hm : 0 ≤ x ∧ x < σ.1 1 1
  · rw [if_pos hm, if_pos hm]
    rw [e_isIn, b01_t (by decide), bind_s, if_neg (by decide), ck_pos (by decide), ck_pos (by decide)]
    rw [show sortsT (Int.toNat (4 * 6)) = 1 by decide]
    rw [os_1, b_if]
    by_cases h0 : (0 ≤ a ∧ a < 6)
    · rw [if_pos h0]
      rw [ck_pos (by decide)]
      rw [show sortsT (Int.toNat (4 * 6 + 1)) = 1 by decide]
      rw [os_1, b_if]
      by_cases h1 : (0 ≤ b ∧ b < 6)
      · rw [if_pos h1]
        rw [ck_pos (by decide)]
        rw [show sortsT (Int.toNat (4 * 6 + 2)) = 4 by decide]
        rw [os_4, b_if]
        by_cases h2 : (0 ≤ c ∧ c < 8)
        · rw [if_pos h2]
          rw [ck_pos (by decide)]
          rw [show sortsT (Int.toNat (4 * 6 + 3)) = 0 by decide]
          rw [os_0, bind_s, if_neg (by decide)]
          rw [if_pos (okS_6.mpr ⟨h0, h1, h2⟩)]
          rfl
        · rw [if_neg h2, if_neg (fun z => h2 (okS_6.mp z).2.2)]
      · rw [if_neg h1, if_neg (fun z => h1 (okS_6.mp z).2.1)]
    · rw [if_neg h0, if_neg (fun z => h0 (okS_6.mp z).1)]
  · rw [if_neg hm, if_neg hm]
theorem e_step_7 {σ : Mm} {x a b c d : Int} (h12 : σ.1 1 1 ≤ 12) [Decidable (okS (σ.1 1 0) (σ.1 1 1) (σ.1 3) 7 a b c d)] : f_X6_step x 7 a b c d σ = if 0 ≤ x ∧ x < σ.1 1 1 then if okS (σ.1 1 0) (σ.1 1 1) (σ.1 3) 7 a b c d then stRest x 7 a b c d σ else some (-1, σ) else some (-1, σ) := by
  unfold f_X6_step
  rw [e_isMethod, b_if]
  by_cases hm : 0 ≤ x ∧ x < σ.1 1 1
  · rw [if_pos hm, if_pos hm]
    rw [e_isIn, b01_t (by decide), bind_s, if_neg (by decide), ck_pos (by decide), ck_pos (by decide)]
    rw [show sortsT (Int.toNat (4 * 7)) = 1 by decide]
    rw [os_1, b_if]
    by_cases h0 : (0 ≤ a ∧ a < 6)
    · rw [if_pos h0]
      rw [ck_pos (by decide)]
      rw [show sortsT (Int.toNat (4 * 7 + 1)) = 1 by decide]
      rw [os_1, b_if]
      by_cases h1 : (0 ≤ b ∧ b < 6)
      · rw [if_pos h1]
        rw [ck_pos (by decide)]
        rw [show sortsT (Int.toNat (4 * 7 + 2)) = 4 by decide]
        rw [os_4, b_if]
        by_cases h2 : (0 ≤ c ∧ c < 8)
        · rw [if_pos h2]
          rw [ck_pos (by decide)]
          rw [show sortsT (Int.toNat (4 * 7 + 3)) = 0 by decide]
          rw [os_0, bind_s, if_neg (by decide)]
          rw [if_pos (okS_7.mpr ⟨h0, h1, h2⟩)]
          rfl
        · rw [if_neg h2, if_neg (fun z => h2 (okS_7.mp z).2.2)]
      · rw [if_neg h1, if_neg (fun z => h1 (okS_7.mp z).2.1)]
    · rw [if_neg h0, if_neg (fun z => h0 (okS_7.mp z).1)]
  · rw [if_neg hm, if_neg hm]
theorem e_step_8 {σ : Mm} {x a b c d : Int} (h12 : σ.1 1 1 ≤ 12) [Decidable (okS (σ.1 1 0) (σ.1 1 1) (σ.1 3) 8 a b c d)] : f_X6_step x 8 a b c d σ = if 0 ≤ x ∧ x < σ.1 1 1 then if okS (σ.1 1 0) (σ.1 1 1) (σ.1 3) 8 a b c d then stRest x 8 a b c d σ else some (-1, σ) else some (-1, σ) := by
  unfold f_X6_step
  rw [e_isMethod, b_if]
  by_cases hm : 0 ≤ x ∧ x < σ.1 1 1
  · rw [if_pos hm, if_pos hm]
    rw [e_isIn, b01_t (by decide), bind_s, if_neg (by decide), ck_pos (by decide), ck_pos (by decide)]
    rw [show sortsT (Int.toNat (4 * 8)) = 1 by decide]
    rw [os_1, b_if]
    by_cases h0 : (0 ≤ a ∧ a < 6)
    · rw [if_pos h0]
      rw [ck_pos (by decide)]
      rw [show sortsT (Int.toNat (4 * 8 + 1)) = 1 by decide]
      rw [os_1, b_if]
      by_cases h1 : (0 ≤ b ∧ b < 6)
      · rw [if_pos h1]
        rw [ck_pos (by decide)]
        rw [show sortsT (Int.toNat (4 * 8 + 2)) = 2 by decide]
        rw [os_2, b_if]
        by_cases h2 : (0 ≤ c ∧ c < σ.1 1 0)
        · rw [if_pos h2]
          rw [ck_pos (by decide)]
          rw [show sortsT (Int.toNat (4 * 8 + 3)) = 0 by decide]
          rw [os_0, bind_s, if_neg (by decide)]
          rw [if_pos (okS_8.mpr ⟨h0, h1, h2⟩)]
          rfl
        · rw [if_neg h2, if_neg (fun z => h2 (okS_8.mp z).2.2)]
      · rw [if_neg h1, if_neg (fun z => h1 (okS_8.mp z).2.1)]
    · rw [if_neg h0, if_neg (fun z => h0 (okS_8.mp z).1)]
  · rw [if_neg hm, if_neg hm]
theorem e_step_9 {σ : Mm} {x a b c d : Int} (h12 : σ.1 1 1 ≤ 12) [Decidable (okS (σ.1 1 0) (σ.1 1 1) (σ.1 3) 9 a b c d)] : f_X6_step x 9 a b c d σ = if 0 ≤ x ∧ x < σ.1 1 1 then if okS (σ.1 1 0) (σ.1 1 1) (σ.1 3) 9 a b c d then stRest x 9 a b c d σ else some (-1, σ) else some (-1, σ) := by
  unfold f_X6_step
  rw [e_isMethod, b_if]
  by_cases hm : 0 ≤ x ∧ x < σ.1 1 1
  · rw [if_pos hm, if_pos hm]
    rw [e_isIn, b01_t (by decide), bind_s, if_neg (by decide), ck_pos (by decide), ck_pos (by decide)]
    rw [show sortsT (Int.toNat (4 * 9)) = 1 by decide]
    rw [os_1, b_if]
    by_cases h0 : (0 ≤ a ∧ a < 6)
    · rw [if_pos h0]
      rw [ck_pos (by decide)]
      rw [show sortsT (Int.toNat (4 * 9 + 1)) = 1 by decide]
      rw [os_1, b_if]
      by_cases h1 : (0 ≤ b ∧ b < 6)
      · rw [if_pos h1]
        rw [ck_pos (by decide)]
        rw [show sortsT (Int.toNat (4 * 9 + 2)) = 6 by decide]
        rw [os_6, b_if]
        by_cases h2 : (0 ≤ c ∧ c < 8)
        · rw [if_pos h2]
          rw [ck_pos (by decide)]
          rw [show sortsT (Int.toNat (4 * 9 + 3)) = 1 by decide]
          rw [os_1, b_if]
          by_cases h3 : (0 ≤ d ∧ d < 6)
          · rw [if_pos h3]
            rw [if_pos (okS_9.mpr ⟨h0, h1, h2, h3⟩)]
            rfl
          · rw [if_neg h3, if_neg (fun z => h3 (okS_9.mp z).2.2.2)]
        · rw [if_neg h2, if_neg (fun z => h2 (okS_9.mp z).2.2.1)]
      · rw [if_neg h1, if_neg (fun z => h1 (okS_9.mp z).2.1)]
    · rw [if_neg h0, if_neg (fun z => h0 (okS_9.mp z).1)]
  · rw [if_neg hm, if_neg hm]
theorem e_step_10 {σ : Mm} {x a b c d : Int} (h12 : σ.1 1 1 ≤ 12) [Decidable (okS (σ.1 1 0) (σ.1 1 1) (σ.1 3) 10 a b c d)] : f_X6_step x 10 a b c d σ = if 0 ≤ x ∧ x < σ.1 1 1 then if okS (σ.1 1 0) (σ.1 1 1) (σ.1 3) 10 a b c d then stRest x 10 a b c d σ else some (-1, σ) else some (-1, σ) := by
  unfold f_X6_step
  rw [e_isMethod, b_if]
  by_cases hm : 0 ≤ x ∧ x < σ.1 1 1
  · rw [if_pos hm, if_pos hm]
    rw [e_isIn, b01_t (by decide), bind_s, if_neg (by decide), ck_pos (by decide), ck_pos (by decide)]
    rw [show sortsT (Int.toNat (4 * 10)) = 1 by decide]
    rw [os_1, b_if]
    by_cases h0 : (0 ≤ a ∧ a < 6)
    · rw [if_pos h0]
      rw [ck_pos (by decide)]
      rw [show sortsT (Int.toNat (4 * 10 + 1)) = 0 by decide]
      rw [os_0, bind_s, if_neg (by decide)]
      rw [ck_pos (by decide)]
      rw [show sortsT (Int.toNat (4 * 10 + 2)) = 7 by decide]
      rw [os_7 h12, b_if]
      by_cases h2 : (0 ≤ c ∧ c < σ.1 1 1 ∧ σ.1 3 (Int.toNat c) < 0)
      · rw [if_pos h2]
        rw [ck_pos (by decide)]
        rw [show sortsT (Int.toNat (4 * 10 + 3)) = 1 by decide]
        rw [os_1, b_if]
        by_cases h3 : (0 ≤ d ∧ d < 6)
        · rw [if_pos h3]
          rw [if_pos (okS_10.mpr ⟨h0, h2, h3⟩)]
          rfl
        · rw [if_neg h3, if_neg (fun z => h3 (okS_10.mp z).2.2)]
      · rw [if_neg h2, if_neg (fun z => h2 (okS_10.mp z).2.1)]
    · rw [if_neg h0, if_neg (fun z => h0 (okS_10.mp z).1)]
  · rw [if_neg hm, if_neg hm]
theorem e_step_11 {σ : Mm} {x a b c d : Int} (h12 : σ.1 1 1 ≤ 12) [Decidable (okS (σ.1 1 0) (σ.1 1 1) (σ.1 3) 11 a b c d)] : f_X6_step x 11 a b c d σ = if 0 ≤ x ∧ x < σ.1 1 1 then if okS (σ.1 1 0) (σ.1 1 1) (σ.1 3) 11 a b c d then stRest x 11 a b c d σ else some (-1, σ) else some (-1, σ) := by
  unfold f_X6_step
  rw [e_isMethod, b_if]
  by_cases hm : 0 ≤ x ∧ x < σ.1 1 1
  · rw [if_pos hm, if_pos hm]
    rw [e_isIn, b01_t (by decide), bind_s, if_neg (by decide), ck_pos (by decide), ck_pos (by decide)]
    rw [show sortsT (Int.toNat (4 * 11)) = 1 by decide]
    rw [os_1, b_if]
    by_cases h0 : (0 ≤ a ∧ a < 6)
    · rw [if_pos h0]
      rw [ck_pos (by decide)]
      rw [show sortsT (Int.toNat (4 * 11 + 1)) = 0 by decide]
      rw [os_0, bind_s, if_neg (by decide)]
      rw [ck_pos (by decide)]
      rw [show sortsT (Int.toNat (4 * 11 + 2)) = 0 by decide]
      rw [os_0, bind_s, if_neg (by decide)]
      rw [ck_pos (by decide)]
      rw [show sortsT (Int.toNat (4 * 11 + 3)) = 0 by decide]
      rw [os_0, bind_s, if_neg (by decide)]
      rw [if_pos (okS_11.mpr h0)]
      rfl
    · rw [if_neg h0, if_neg (fun z => h0 (okS_11.mp z))]
  · rw [if_neg hm, if_neg hm]
theorem e_step_12 {σ : Mm} {x a b c d : Int} (h12 : σ.1 1 1 ≤ 12) [Decidable (okS (σ.1 1 0) (σ.1 1 1) (σ.1 3) 12 a b c d)] : f_X6_step x 12 a b c d σ = if 0 ≤ x ∧ x < σ.1 1 1 then if okS (σ.1 1 0) (σ.1 1 1) (σ.1 3) 12 a b c d then stRest x 12 a b c d σ else some (-1, σ) else some (-1, σ) := by
  unfold f_X6_step
  rw [e_isMethod, b_if]
  by_cases hm : 0 ≤ x ∧ x < σ.1 1 1
  · rw [if_pos hm, if_pos hm]
    rw [e_isIn, b01_t (by decide), bind_s, if_neg (by decide), ck_pos (by decide), ck_pos (by decide)]
    rw [show sortsT (Int.toNat (4 * 12)) = 0 by decide]
    rw [os_0, bind_s, if_neg (by decide)]
    rw [ck_pos (by decide)]
    rw [show sortsT (Int.toNat (4 * 12 + 1)) = 8 by decide]
    rw [os_8, b_if]
    by_cases h1 : (1 ≤ b ∧ b ≤ 30)
    · rw [if_pos h1]
      rw [ck_pos (by decide)]
      rw [show sortsT (Int.toNat (4 * 12 + 2)) = 0 by decide]
      rw [os_0, bind_s, if_neg (by decide)]
      rw [ck_pos (by decide)]
      rw [show sortsT (Int.toNat (4 * 12 + 3)) = 0 by decide]
      rw [os_0, bind_s, if_neg (by decide)]
      rw [if_pos (okS_12.mpr h1)]
      rfl
    · rw [if_neg h1, if_neg (fun z => h1 (okS_12.mp z))]
  · rw [if_neg hm, if_neg hm]
theorem e_step_13 {σ : Mm} {x a b c d : Int} (h12 : σ.1 1 1 ≤ 12) [Decidable (okS (σ.1 1 0) (σ.1 1 1) (σ.1 3) 13 a b c d)] : f_X6_step x 13 a b c d σ = if 0 ≤ x ∧ x < σ.1 1 1 then if okS (σ.1 1 0) (σ.1 1 1) (σ.1 3) 13 a b c d then stRest x 13 a b c d σ else some (-1, σ) else some (-1, σ) := by
  unfold f_X6_step
  rw [e_isMethod, b_if]
  by_cases hm : 0 ≤ x ∧ x < σ.1 1 1
  · rw [if_pos hm, if_pos hm]
    rw [e_isIn, b01_t (by decide), bind_s, if_neg (by decide), ck_pos (by decide), ck_pos (by decide)]
    rw [show sortsT (Int.toNat (4 * 13)) = 1 by decide]
    rw [os_1, b_if]
    by_cases h0 : (0 ≤ a ∧ a < 6)
    · rw [if_pos h0]
      rw [ck_pos (by decide)]
      rw [show sortsT (Int.toNat (4 * 13 + 1)) = 0 by decide]
      rw [os_0, bind_s, if_neg (by decide)]
      rw [ck_pos (by decide)]
      rw [show sortsT (Int.toNat (4 * 13 + 2)) = 9 by decide]
      rw [os_9, b_if]
      by_cases h2 : (0 ≤ c ∧ c < 4)
      · rw [if_pos h2]
        rw [ck_pos (by decide)]
        rw [show sortsT (Int.toNat (4 * 13 + 3)) = 0 by decide]
        rw [os_0, bind_s, if_neg (by decide)]
        rw [if_pos (okS_13.mpr ⟨h0, h2⟩)]
        rfl
      · rw [if_neg h2, if_neg (fun z => h2 (okS_13.mp z).2)]
    · rw [if_neg h0, if_neg (fun z => h0 (okS_13.mp z).1)]
  · rw [if_neg hm, if_neg hm]
theorem e_step_14 {σ : Mm} {x a b c d : Int} (h12 : σ.1 1 1 ≤ 12) [Decidable (okS (σ.1 1 0) (σ.1 1 1) (σ.1 3) 14 a b c d)] : f_X6_step x 14 a b c d σ = if 0 ≤ x ∧ x < σ.1 1 1 then if okS (σ.1 1 0) (σ.1 1 1) (σ.1 3) 14 a b c d then stRest x 14 a b c d σ else some (-1, σ) else some (-1, σ) := by
  unfold f_X6_step
  rw [e_isMethod, b_if]
  by_cases hm : 0 ≤ x ∧ x < σ.1 1 1
  · rw [if_pos hm, if_pos hm]
    rw [e_isIn, b01_t (by decide), bind_s, if_neg (by decide), ck_pos (by decide), ck_pos (by decide)]
    rw [show sortsT (Int.toNat (4 * 14)) = 1 by decide]
    rw [os_1, b_if]
    by_cases h0 : (0 ≤ a ∧ a < 6)
    · rw [if_pos h0]
      rw [ck_pos (by decide)]
      rw [show sortsT (Int.toNat (4 * 14 + 1)) = 0 by decide]
      rw [os_0, bind_s, if_neg (by decide)]
      rw [ck_pos (by decide)]
      rw [show sortsT (Int.toNat (4 * 14 + 2)) = 9 by decide]
      rw [os_9, b_if]
      by_cases h2 : (0 ≤ c ∧ c < 4)
      · rw [if_pos h2]
        rw [ck_pos (by decide)]
        rw [show sortsT (Int.toNat (4 * 14 + 3)) = 0 by decide]
        rw [os_0, bind_s, if_neg (by decide)]
        rw [if_pos (okS_14.mpr ⟨h0, h2⟩)]
        rfl
      · rw [if_neg h2, if_neg (fun z => h2 (okS_14.mp z).2)]
    · rw [if_neg h0, if_neg (fun z => h0 (okS_14.mp z).1)]
  · rw [if_neg hm, if_neg hm]
theorem e_step_15 {σ : Mm} {x a b c d : Int} (h12 : σ.1 1 1 ≤ 12) [Decidable (okS (σ.1 1 0) (σ.1 1 1) (σ.1 3) 15 a b c d)] : f_X6_step x 15 a b c d σ = if 0 ≤ x ∧ x < σ.1 1 1 then if okS (σ.1 1 0) (σ.1 1 1) (σ.1 3) 15 a b c d then stRest x 15 a b c d σ else some (-1, σ) else some (-1, σ) := by
  unfold f_X6_step
  rw [e_isMethod, b_if]
  by_cases hm : 0 ≤ x ∧ x < σ.1 1 1
  · rw [if_pos hm, if_pos hm]
    rw [e_isIn, b01_t (by decide), bind_s, if_neg (by decide), ck_pos (by decide), ck_pos (by decide)]
    rw [show sortsT (Int.toNat (4 * 15)) = 1 by decide]
    rw [os_1, b_if]
    by_cases h0 : (0 ≤ a ∧ a < 6)
    · rw [if_pos h0]
      rw [ck_pos (by decide)]
      rw [show sortsT (Int.toNat (4 * 15 + 1)) = 0 by decide]
      rw [os_0, bind_s, if_neg (by decide)]
      rw [ck_pos (by decide)]
      rw [show sortsT (Int.toNat (4 * 15 + 2)) = 0 by decide]
      rw [os_0, bind_s, if_neg (by decide)]
      rw [ck_pos (by decide)]
      rw [show sortsT (Int.toNat (4 * 15 + 3)) = 0 by decide]
      rw [os_0, bind_s, if_neg (by decide)]
      rw [if_pos (okS_15.mpr h0)]
      rfl
    · rw [if_neg h0, if_neg (fun z => h0 (okS_15.mp z))]
  · rw [if_neg hm, if_neg hm]
theorem e_step_16 {σ : Mm} {x a b c d : Int} (h12 : σ.1 1 1 ≤ 12) [Decidable (okS (σ.1 1 0) (σ.1 1 1) (σ.1 3) 16 a b c d)] : f_X6_step x 16 a b c d σ = if 0 ≤ x ∧ x < σ.1 1 1 then if okS (σ.1 1 0) (σ.1 1 1) (σ.1 3) 16 a b c d then stRest x 16 a b c d σ else some (-1, σ) else some (-1, σ) := by
  unfold f_X6_step
  rw [e_isMethod, b_if]
  by_cases hm : 0 ≤ x ∧ x < σ.1 1 1
  · rw [if_pos hm, if_pos hm]
    rw [e_isIn, b01_t (by decide), bind_s, if_neg (by decide), ck_pos (by decide), ck_pos (by decide)]
    rw [show sortsT (Int.toNat (4 * 16)) = 1 by decide]
    rw [os_1, b_if]
    by_cases h0 : (0 ≤ a ∧ a < 6)
    · rw [if_pos h0]
      rw [ck_pos (by decide)]
      rw [show sortsT (Int.toNat (4 * 16 + 1)) = 8 by decide]
      rw [os_8, b_if]
      by_cases h1 : (1 ≤ b ∧ b ≤ 30)
      · rw [if_pos h1]
        rw [ck_pos (by decide)]
        rw [show sortsT (Int.toNat (4 * 16 + 2)) = 2 by decide]
        rw [os_2, b_if]
        by_cases h2 : (0 ≤ c ∧ c < σ.1 1 0)
        · rw [if_pos h2]
          rw [ck_pos (by decide)]
          rw [show sortsT (Int.toNat (4 * 16 + 3)) = 0 by decide]
          rw [os_0, bind_s, if_neg (by decide)]
          rw [if_pos (okS_16.mpr ⟨h0, h1, h2⟩)]
          rfl
        · rw [if_neg h2, if_neg (fun z => h2 (okS_16.mp z).2.2)]
      · rw [if_neg h1, if_neg (fun z => h1 (okS_16.mp z).2.1)]
    · rw [if_neg h0, if_neg (fun z => h0 (okS_16.mp z).1)]
  · rw [if_neg hm, if_neg hm]
theorem g_right_0 {τ : Mm} {a b c d : Int} (hc : 1 ≤ τ.1 0 0 ∧ τ.1 0 0 ≤ 10) (hm : 0 ≤ τ.1 0 2 ∧ τ.1 0 2 ≤ 12) : f_X7_areRight 0 a b c d τ = some (b01 ((0 ≤ a ∧ a ≤ 5) ∧ (0 ≤ b ∧ b ≤ τ.1 0 0 - 1))) := by
  unfold f_X7_areRight
  rw [if_pos rfl]
  rw [g_isVar, b_if]
  by_cases h0 : (0 ≤ a ∧ a ≤ 5)
  · rw [if_pos h0]
    rw [g_isClass _ hc, b_if]
    by_cases h1 : (0 ≤ b ∧ b ≤ τ.1 0 0 - 1)
    · rw [if_pos h1]
      rw [b01_t ⟨h0, h1⟩]
    · rw [if_neg h1, b01_f (fun z => h1 z.2)]
  · rw [if_neg h0, b01_f (fun z => h0 z.1)]
theorem g_right_1 {τ : Mm} {a b c d : Int} (hc : 1 ≤ τ.1 0 0 ∧ τ.1 0 0 ≤ 10) (hm : 0 ≤ τ.1 0 2 ∧ τ.1 0 2 ≤ 12) : f_X7_areRight 1 a b c d τ = some (b01 ((0 ≤ a ∧ a ≤ 5) ∧ (0 ≤ b ∧ b ≤ τ.1 0 0 - 1) ∧ (0 ≤ c ∧ c ≤ 5))) := by
  unfold f_X7_areRight
  rw [if_neg (by decide)]
  rw [if_pos rfl]
  rw [g_isVar, b_if]
  by_cases h0 : (0 ≤ a ∧ a ≤ 5)
  · rw [if_pos h0]
    rw [g_isClass _ hc, b_if]
    by_cases h1 : (0 ≤ b ∧ b ≤ τ.1 0 0 - 1)
    · rw [if_pos h1]
      rw [g_in, b_if]
      by_cases h2 : (0 ≤ c ∧ c ≤ 5)
      · rw [if_pos h2]
        rw [b01_t ⟨h0, h1, h2⟩]
      · rw [if_neg h2, b01_f (fun z => h2 z.2.2)]
    · rw [if_neg h1, b01_f (fun z => h1 z.2.1)]
  · rw [if_neg h0, b01_f (fun z => h0 z.1)]
theorem g_right_2 {τ : Mm} {a b c d : Int} (hc : 1 ≤ τ.1 0 0 ∧ τ.1 0 0 ≤ 10) (hm : 0 ≤ τ.1 0 2 ∧ τ.1 0 2 ≤ 12) : f_X7_areRight 2 a b c d τ = some (b01 ((0 ≤ a ∧ a ≤ 5) ∧ (0 ≤ b ∧ b ≤ 5))) := by
  unfold f_X7_areRight
  rw [if_neg (by decide)]
  rw [if_neg (by decide)]
  rw [if_pos rfl]
  rw [g_isVar, b_if]
  by_cases h0 : (0 ≤ a ∧ a ≤ 5)
  · rw [if_pos h0]
    rw [g_isVar, b_if]
    by_cases h1 : (0 ≤ b ∧ b ≤ 5)
    · rw [if_pos h1]
      rw [b01_t ⟨h0, h1⟩]
    · rw [if_neg h1, b01_f (fun z => h1 z.2)]
  · rw [if_neg h0, b01_f (fun z => h0 z.1)]
theorem g_right_3 {τ : Mm} {a b c d : Int} (hc : 1 ≤ τ.1 0 0 ∧ τ.1 0 0 ≤ 10) (hm : 0 ≤ τ.1 0 2 ∧ τ.1 0 2 ≤ 12) : f_X7_areRight 3 a b c d τ = some (b01 (0 ≤ a ∧ a ≤ 5)) := by
  unfold f_X7_areRight
  rw [if_neg (by decide)]
  rw [if_neg (by decide)]
  rw [if_neg (by decide)]
  rw [if_pos rfl]
  rw [g_isVar, bck]
theorem g_right_4 {τ : Mm} {a b c d : Int} (hc : 1 ≤ τ.1 0 0 ∧ τ.1 0 0 ≤ 10) (hm : 0 ≤ τ.1 0 2 ∧ τ.1 0 2 ≤ 12) : f_X7_areRight 4 a b c d τ = some (b01 ((0 ≤ a ∧ a ≤ 5) ∧ (0 ≤ b ∧ b ≤ 5) ∧ (0 ≤ c ∧ c ≤ 3))) := by
  unfold f_X7_areRight
  rw [if_neg (by decide)]
  rw [if_neg (by decide)]
  rw [if_neg (by decide)]
  rw [if_neg (by decide)]
  rw [if_pos rfl]
  rw [g_isVar, b_if]
  by_cases h0 : (0 ≤ a ∧ a ≤ 5)
  · rw [if_pos h0]
    rw [g_isVar, b_if]
    by_cases h1 : (0 ≤ b ∧ b ≤ 5)
    · rw [if_pos h1]
      rw [g_in, b_if]
      by_cases h2 : (0 ≤ c ∧ c ≤ 3)
      · rw [if_pos h2]
        rw [b01_t ⟨h0, h1, h2⟩]
      · rw [if_neg h2, b01_f (fun z => h2 z.2.2)]
    · rw [if_neg h1, b01_f (fun z => h1 z.2.1)]
  · rw [if_neg h0, b01_f (fun z => h0 z.1)]
theorem g_right_5 {τ : Mm} {a b c d : Int} (hc : 1 ≤ τ.1 0 0 ∧ τ.1 0 0 ≤ 10) (hm : 0 ≤ τ.1 0 2 ∧ τ.1 0 2 ≤ 12) : f_X7_areRight 5 a b c d τ = some (b01 ((0 ≤ a ∧ a ≤ 5) ∧ (0 ≤ b ∧ b ≤ 5) ∧ (0 ≤ c ∧ c ≤ 3))) := by
  unfold f_X7_areRight
  rw [if_neg (by decide)]
  rw [if_neg (by decide)]
  rw [if_neg (by decide)]
  rw [if_neg (by decide)]
  rw [if_neg (by decide)]
  rw [if_pos rfl]
  rw [g_isVar, b_if]
  by_cases h0 : (0 ≤ a ∧ a ≤ 5)
  · rw [if_pos h0]
    rw [g_isVar, b_if]
    by_cases h1 : (0 ≤ b ∧ b ≤ 5)
    · rw [if_pos h1]
      rw [g_in, b_if]
      by_cases h2 : (0 ≤ c ∧ c ≤ 3)
      · rw [if_pos h2]
        rw [b01_t ⟨h0, h1, h2⟩]
      · rw [if_neg h2, b01_f (fun z => h2 z.2.2)]
    · rw [if_neg h1, b01_f (fun z => h1 z.2.1)]
  · rw [if_neg h0, b01_f (fun z => h0 z.1)]
theorem g_right_6 {τ : Mm} {a b c d : Int} (hc : 1 ≤ τ.1 0 0 ∧ τ.1 0 0 ≤ 10) (hm : 0 ≤ τ.1 0 2 ∧ τ.1 0 2 ≤ 12) : f_X7_areRight 6 a b c d τ = some (b01 ((0 ≤ a ∧ a ≤ 5) ∧ (0 ≤ b ∧ b ≤ 5) ∧ (0 ≤ c ∧ c ≤ 7))) := by
  unfold f_X7_areRight
  rw [if_neg (by decide)]
  rw [if_neg (by decide)]
  rw [if_neg (by decide)]
  rw [if_neg (by decide)]
  rw [if_neg (by decide)]
  rw [if_neg (by decide)]
  rw [if_pos rfl]
  rw [g_isVar, b_if]
  by_cases h0 : (0 ≤ a ∧ a ≤ 5)
  · rw [if_pos h0]
    rw [g_isVar, b_if]
    by_cases h1 : (0 ≤ b ∧ b ≤ 5)
    · rw [if_pos h1]
      rw [g_in, b_if]
      by_cases h2 : (0 ≤ c ∧ c ≤ 7)
      · rw [if_pos h2]
        rw [b01_t ⟨h0, h1, h2⟩]
      · rw [if_neg h2, b01_f (fun z => h2 z.2.2)]
    · rw [if_neg h1, b01_f (fun z => h1 z.2.1)]
  · rw [if_neg h0, b01_f (fun z => h0 z.1)]
theorem g_right_7 {τ : Mm} {a b c d : Int} (hc : 1 ≤ τ.1 0 0 ∧ τ.1 0 0 ≤ 10) (hm : 0 ≤ τ.1 0 2 ∧ τ.1 0 2 ≤ 12) : f_X7_areRight 7 a b c d τ = some (b01 ((0 ≤ a ∧ a ≤ 5) ∧ (0 ≤ b ∧ b ≤ 5) ∧ (0 ≤ c ∧ c ≤ 7))) := by
  unfold f_X7_areRight
  rw [if_neg (by decide)]
  rw [if_neg (by decide)]
  rw [if_neg (by decide)]
  rw [if_neg (by decide)]
  rw [if_neg (by decide)]
  rw [if_neg (by decide)]
  rw [if_neg (by decide)]
  rw [if_pos rfl]
  rw [g_isVar, b_if]
  by_cases h0 : (0 ≤ a ∧ a ≤ 5)
  · rw [if_pos h0]
    rw [g_isVar, b_if]
    by_cases h1 : (0 ≤ b ∧ b ≤ 5)
    · rw [if_pos h1]
      rw [g_in, b_if]
      by_cases h2 : (0 ≤ c ∧ c ≤ 7)
      · rw [if_pos h2]
        rw [b01_t ⟨h0, h1, h2⟩]
      · rw [if_neg h2, b01_f (fun z => h2 z.2.2)]
    · rw [if_neg h1, b01_f (fun z => h1 z.2.1)]
  · rw [if_neg h0, b01_f (fun z => h0 z.1)]
theorem g_right_8 {τ : Mm} {a b c d : Int} (hc : 1 ≤ τ.1 0 0 ∧ τ.1 0 0 ≤ 10) (hm : 0 ≤ τ.1 0 2 ∧ τ.1 0 2 ≤ 12) : f_X7_areRight 8 a b c d τ = some (b01 ((0 ≤ a ∧ a ≤ 5) ∧ (0 ≤ b ∧ b ≤ 5) ∧ (0 ≤ c ∧ c ≤ τ.1 0 0 - 1))) := by
  unfold f_X7_areRight
  rw [if_neg (by decide)]
  rw [if_neg (by decide)]
  rw [if_neg (by decide)]
  rw [if_neg (by decide)]
  rw [if_neg (by decide)]
  rw [if_neg (by decide)]
  rw [if_neg (by decide)]
  rw [if_neg (by decide)]
  rw [if_pos rfl]
  rw [g_isVar, b_if]
  by_cases h0 : (0 ≤ a ∧ a ≤ 5)
  · rw [if_pos h0]
    rw [g_isVar, b_if]
    by_cases h1 : (0 ≤ b ∧ b ≤ 5)
    · rw [if_pos h1]
      rw [g_isClass _ hc, b_if]
      by_cases h2 : (0 ≤ c ∧ c ≤ τ.1 0 0 - 1)
      · rw [if_pos h2]
        rw [b01_t ⟨h0, h1, h2⟩]
      · rw [if_neg h2, b01_f (fun z => h2 z.2.2)]
    · rw [if_neg h1, b01_f (fun z => h1 z.2.1)]
  · rw [if_neg h0, b01_f (fun z => h0 z.1)]
theorem g_right_9 {τ : Mm} {a b c d : Int} (hc : 1 ≤ τ.1 0 0 ∧ τ.1 0 0 ≤ 10) (hm : 0 ≤ τ.1 0 2 ∧ τ.1 0 2 ≤ 12) : f_X7_areRight 9 a b c d τ = some (b01 ((0 ≤ a ∧ a ≤ 5) ∧ (0 ≤ b ∧ b ≤ 5) ∧ (0 ≤ c ∧ c ≤ 7) ∧ (0 ≤ d ∧ d ≤ 5))) := by
  unfold f_X7_areRight
  rw [if_neg (by decide)]
  rw [if_neg (by decide)]
  rw [if_neg (by decide)]
  rw [if_neg (by decide)]
  rw [if_neg (by decide)]
  rw [if_neg (by decide)]
  rw [if_neg (by decide)]
  rw [if_neg (by decide)]
  rw [if_neg (by decide)]
  rw [if_pos rfl]
  rw [g_isVar, b_if]
  by_cases h0 : (0 ≤ a ∧ a ≤ 5)
  · rw [if_pos h0]
    rw [g_isVar, b_if]
    by_cases h1 : (0 ≤ b ∧ b ≤ 5)
    · rw [if_pos h1]
      rw [g_in, b_if]
      by_cases h2 : (0 ≤ c ∧ c ≤ 7)
      · rw [if_pos h2]
        rw [g_isVar, b_if]
        by_cases h3 : (0 ≤ d ∧ d ≤ 5)
        · rw [if_pos h3]
          rw [b01_t ⟨h0, h1, h2, h3⟩]
        · rw [if_neg h3, b01_f (fun z => h3 z.2.2.2)]
      · rw [if_neg h2, b01_f (fun z => h2 z.2.2.1)]
    · rw [if_neg h1, b01_f (fun z => h1 z.2.1)]
  · rw [if_neg h0, b01_f (fun z => h0 z.1)]
theorem g_right_10 {τ : Mm} {a b c d : Int} (hc : 1 ≤ τ.1 0 0 ∧ τ.1 0 0 ≤ 10) (hm : 0 ≤ τ.1 0 2 ∧ τ.1 0 2 ≤ 12) : f_X7_areRight 10 a b c d τ = some (b01 ((0 ≤ a ∧ a ≤ 5) ∧ (0 ≤ c ∧ c < τ.1 0 2 ∧ τ.1 2 (Int.toNat c) < 0) ∧ (0 ≤ d ∧ d ≤ 5))) := by
  unfold f_X7_areRight
  rw [if_neg (by decide)]
  rw [if_neg (by decide)]
  rw [if_neg (by decide)]
  rw [if_neg (by decide)]
  rw [if_neg (by decide)]
  rw [if_neg (by decide)]
  rw [if_neg (by decide)]
  rw [if_neg (by decide)]
  rw [if_neg (by decide)]
  rw [if_neg (by decide)]
  rw [if_pos rfl]
  rw [g_isVar, b_if]
  by_cases h0 : (0 ≤ a ∧ a ≤ 5)
  · rw [if_pos h0]
    rw [g_isStatic _ hm, b_if]
    by_cases h1 : (0 ≤ c ∧ c < τ.1 0 2 ∧ τ.1 2 (Int.toNat c) < 0)
    · rw [if_pos h1]
      rw [g_isVar, b_if]
      by_cases h2 : (0 ≤ d ∧ d ≤ 5)
      · rw [if_pos h2]
        rw [b01_t ⟨h0, h1, h2⟩]
      · rw [if_neg h2, b01_f (fun z => h2 z.2.2)]
    · rw [if_neg h1, b01_f (fun z => h1 z.2.1)]
  · rw [if_neg h0, b01_f (fun z => h0 z.1)]
theorem g_right_11 {τ : Mm} {a b c d : Int} (hc : 1 ≤ τ.1 0 0 ∧ τ.1 0 0 ≤ 10) (hm : 0 ≤ τ.1 0 2 ∧ τ.1 0 2 ≤ 12) : f_X7_areRight 11 a b c d τ = some (b01 (0 ≤ a ∧ a ≤ 5)) := by
  unfold f_X7_areRight
  rw [if_neg (by decide)]
  rw [if_neg (by decide)]
  rw [if_neg (by decide)]
  rw [if_neg (by decide)]
  rw [if_neg (by decide)]
  rw [if_neg (by decide)]
  rw [if_neg (by decide)]
  rw [if_neg (by decide)]
  rw [if_neg (by decide)]
  rw [if_neg (by decide)]
  rw [if_neg (by decide)]
  rw [if_pos rfl]
  rw [g_isVar, bck]
theorem g_right_12 {τ : Mm} {a b c d : Int} (hc : 1 ≤ τ.1 0 0 ∧ τ.1 0 0 ≤ 10) (hm : 0 ≤ τ.1 0 2 ∧ τ.1 0 2 ≤ 12) : f_X7_areRight 12 a b c d τ = some (b01 (1 ≤ b ∧ b ≤ 30)) := by
  unfold f_X7_areRight
  rw [if_neg (by decide)]
  rw [if_neg (by decide)]
  rw [if_neg (by decide)]
  rw [if_neg (by decide)]
  rw [if_neg (by decide)]
  rw [if_neg (by decide)]
  rw [if_neg (by decide)]
  rw [if_neg (by decide)]
  rw [if_neg (by decide)]
  rw [if_neg (by decide)]
  rw [if_neg (by decide)]
  rw [if_neg (by decide)]
  rw [if_pos rfl]
  rw [g_in, bck]
theorem g_right_13 {τ : Mm} {a b c d : Int} (hc : 1 ≤ τ.1 0 0 ∧ τ.1 0 0 ≤ 10) (hm : 0 ≤ τ.1 0 2 ∧ τ.1 0 2 ≤ 12) : f_X7_areRight 13 a b c d τ = some (b01 ((0 ≤ a ∧ a ≤ 5) ∧ (0 ≤ c ∧ c ≤ 3))) := by
  unfold f_X7_areRight
  rw [if_neg (by decide)]
  rw [if_neg (by decide)]
  rw [if_neg (by decide)]
  rw [if_neg (by decide)]
  rw [if_neg (by decide)]
  rw [if_neg (by decide)]
  rw [if_neg (by decide)]
  rw [if_neg (by decide)]
  rw [if_neg (by decide)]
  rw [if_neg (by decide)]
  rw [if_neg (by decide)]
  rw [if_neg (by decide)]
  rw [if_neg (by decide)]
  rw [if_pos rfl]
  rw [g_isVar, b_if]
  by_cases h0 : (0 ≤ a ∧ a ≤ 5)
  · rw [if_pos h0]
    rw [g_in, b_if]
    by_cases h1 : (0 ≤ c ∧ c ≤ 3)
    · rw [if_pos h1]
      rw [b01_t ⟨h0, h1⟩]
    · rw [if_neg h1, b01_f (fun z => h1 z.2)]
  · rw [if_neg h0, b01_f (fun z => h0 z.1)]
theorem g_right_14 {τ : Mm} {a b c d : Int} (hc : 1 ≤ τ.1 0 0 ∧ τ.1 0 0 ≤ 10) (hm : 0 ≤ τ.1 0 2 ∧ τ.1 0 2 ≤ 12) : f_X7_areRight 14 a b c d τ = some (b01 ((0 ≤ a ∧ a ≤ 5) ∧ (0 ≤ c ∧ c ≤ 3))) := by
  unfold f_X7_areRight
  rw [if_neg (by decide)]
  rw [if_neg (by decide)]
  rw [if_neg (by decide)]
  rw [if_neg (by decide)]
  rw [if_neg (by decide)]
  rw [if_neg (by decide)]
  rw [if_neg (by decide)]
  rw [if_neg (by decide)]
  rw [if_neg (by decide)]
  rw [if_neg (by decide)]
  rw [if_neg (by decide)]
  rw [if_neg (by decide)]
  rw [if_neg (by decide)]
  rw [if_neg (by decide)]
  rw [if_pos rfl]
  rw [g_isVar, b_if]
  by_cases h0 : (0 ≤ a ∧ a ≤ 5)
  · rw [if_pos h0]
    rw [g_in, b_if]
    by_cases h1 : (0 ≤ c ∧ c ≤ 3)
    · rw [if_pos h1]
      rw [b01_t ⟨h0, h1⟩]
    · rw [if_neg h1, b01_f (fun z => h1 z.2)]
  · rw [if_neg h0, b01_f (fun z => h0 z.1)]
theorem g_right_15 {τ : Mm} {a b c d : Int} (hc : 1 ≤ τ.1 0 0 ∧ τ.1 0 0 ≤ 10) (hm : 0 ≤ τ.1 0 2 ∧ τ.1 0 2 ≤ 12) : f_X7_areRight 15 a b c d τ = some (b01 (0 ≤ a ∧ a ≤ 5)) := by
  unfold f_X7_areRight
  rw [if_neg (by decide)]
  rw [if_neg (by decide)]
  rw [if_neg (by decide)]
  rw [if_neg (by decide)]
  rw [if_neg (by decide)]
  rw [if_neg (by decide)]
  rw [if_neg (by decide)]
  rw [if_neg (by decide)]
  rw [if_neg (by decide)]
  rw [if_neg (by decide)]
  rw [if_neg (by decide)]
  rw [if_neg (by decide)]
  rw [if_neg (by decide)]
  rw [if_neg (by decide)]
  rw [if_neg (by decide)]
  rw [if_pos rfl]
  rw [g_isVar, bck]
theorem g_right_16 {τ : Mm} {a b c d : Int} (hc : 1 ≤ τ.1 0 0 ∧ τ.1 0 0 ≤ 10) (hm : 0 ≤ τ.1 0 2 ∧ τ.1 0 2 ≤ 12) : f_X7_areRight 16 a b c d τ = some (b01 ((0 ≤ a ∧ a ≤ 5) ∧ (1 ≤ b ∧ b ≤ 30) ∧ (0 ≤ c ∧ c ≤ τ.1 0 0 - 1))) := by
  unfold f_X7_areRight
  rw [if_neg (by decide)]
  rw [if_neg (by decide)]
  rw [if_neg (by decide)]
  rw [if_neg (by decide)]
  rw [if_neg (by decide)]
  rw [if_neg (by decide)]
  rw [if_neg (by decide)]
  rw [if_neg (by decide)]
  rw [if_neg (by decide)]
  rw [if_neg (by decide)]
  rw [if_neg (by decide)]
  rw [if_neg (by decide)]
  rw [if_neg (by decide)]
  rw [if_neg (by decide)]
  rw [if_neg (by decide)]
  rw [if_neg (by decide)]
  rw [if_pos rfl]
  rw [g_isVar, b_if]
  by_cases h0 : (0 ≤ a ∧ a ≤ 5)
  · rw [if_pos h0]
    rw [g_in, b_if]
    by_cases h1 : (1 ≤ b ∧ b ≤ 30)
    · rw [if_pos h1]
      rw [g_isClass _ hc, b_if]
      by_cases h2 : (0 ≤ c ∧ c ≤ τ.1 0 0 - 1)
      · rw [if_pos h2]
        rw [b01_t ⟨h0, h1, h2⟩]
      · rw [if_neg h2, b01_f (fun z => h2 z.2.2)]
    · rw [if_neg h1, b01_f (fun z => h1 z.2.1)]
  · rw [if_neg h0, b01_f (fun z => h0 z.1)]
