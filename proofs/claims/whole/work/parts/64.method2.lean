/-! the calls that change the PROGRAM: nothing, or a new PROGRAM -/
def Chg (σC σC' σM σM' : Mm) : Prop := σC'.1 0 5 = 0 ∧ σC'.1 0 6 = 0 ∧ σM'.1 0 16 = 0 ∧ σM'.1 0 37 = 0 ∧ σC'.1 15 8 = σC.1 15 8 ∧ σM'.1 0 21 = σM.1 0 21
def Sim1 (rC rM : Option (Int × Mm)) (σC σM : Mm) : Prop := (∃ r, rC = some (r, σC) ∧ rM = some (r, σM)) ∨ ∃ r σC' σM', rC = some (r, σC') ∧ rM = some (r, σM') ∧ PR σC' σM' ∧ Chg σC σC' σM σM'
theorem cls_sim {σC σM : Mm} (h : PR σC σM) (x : Int) : Sim1 (f_X6_cls x σC) (f_X7_cls x σM) σC σM := by
  obtain ⟨⟨b1, b2⟩, -, -, -, e0, -⟩ := id h.1
  rw [e_cls ⟨b1, b2⟩, g_cls (by omega), e0]
  by_cases h1 : 0 ≤ x ∧ x < σC.1 1 0
  · by_cases h2 : σC.1 1 0 < 10
    · right
      rw [if_pos h1, if_pos h2, if_pos h1, if_pos h2]
      refine ⟨_, _, _, rfl, rfl, PR_cls h h1 h2, ?_⟩
      refine ⟨?_, ?_, ?_, ?_, ?_, ?_⟩ <;> simp [clsC, clsM, stI_1, cpI_1]
    · left
      rw [if_pos h1, if_neg h2, if_pos h1, if_neg h2]
      exact ⟨_, rfl, rfl⟩
  · left
    rw [if_neg h1, if_neg h1]
    exact ⟨_, rfl, rfl⟩
/-! method: the new contents -/
def mth3 (σ : Mm) (c e : Int) : Mm := stI (stI σ 3 (Int.toNat (σ.1 1 1)) c) 4 (Int.toNat (σ.1 1 1)) e
def mthZ (σ : Mm) : Mm := stI (stI (stI σ 1 1 (σ.1 1 1 + 1)) 0 5 0) 0 6 0
def mthM (σ : Mm) (c e : Int) : Mm := stI (stI (stI (stI (stI (stI σ 2 (Int.toNat (σ.1 0 2)) c) 3 (Int.toNat (σ.1 0 2)) e) 4 (Int.toNat (σ.1 0 2)) 0) 0 2 (σ.1 0 2 + 1)) 0 16 0) 0 37 0
theorem g_68 {σ : Mm} {c e : Int} (h : 0 ≤ σ.1 0 2 ∧ σ.1 0 2 < 12) : f_X7_method_68 c e σ = some (σ.1 0 2, mthM σ c (if 0 ≤ c then e else -1)) := by
  unfold f_X7_method_68
  rw [if_neg (by omega), ck_pos (by omega)]
  have e1 : (stI σ 2 (Int.toNat (σ.1 0 2)) c).1 0 2 = σ.1 0 2 := by simp [stI_1]
  have key : ∀ z : Int, f_X7_method_107 z ((stI σ 2 (Int.toNat (σ.1 0 2)) c).1 0 2) (stI σ 2 (Int.toNat (σ.1 0 2)) c) = some (σ.1 0 2, mthM σ c z) := by
    intro z
    unfold f_X7_method_107
    rw [e1]
    have e2 : (stI (stI σ 2 (Int.toNat (σ.1 0 2)) c) 3 (Int.toNat (σ.1 0 2)) z).1 0 2 = σ.1 0 2 := by simp [stI_1]
    rw [e2, ck_pos (by omega), ck_pos (by omega), bind_s]
    have e3 : (stI (stI (stI σ 2 (Int.toNat (σ.1 0 2)) c) 3 (Int.toNat (σ.1 0 2)) z) 4 (Int.toNat (σ.1 0 2)) 0).1 0 2 = σ.1 0 2 := by simp [stI_1]
    rw [e3, ck_pos (by omega)]
    have e4 : (stI (stI (stI (stI (stI (stI σ 2 (Int.toNat (σ.1 0 2)) c) 3 (Int.toNat (σ.1 0 2)) z) 4 (Int.toNat (σ.1 0 2)) 0) 0 2 (σ.1 0 2 + 1)) 0 16 0) 0 37 0).1 0 2 = σ.1 0 2 + 1 := by simp [stI_1]
    rw [e4, ck_pos (by omega)]
    unfold mthM
    congr 2
    omega
  by_cases hc : 0 ≤ c
  · rw [if_pos hc, if_pos hc, key]
  · rw [if_neg hc, if_neg hc, key]
theorem e_addS {σ : Mm} {c e : Int} (h : 0 ≤ σ.1 1 1 ∧ σ.1 1 1 < 12) (hc : c < 0) : (f_X3_addMethod c e σ).bind (fun r4 => (f_X6_changed r4.1 r4.2).bind (fun r7 => some (r7.1, r7.2))) = some (σ.1 1 1, mthZ (mth3 σ c e)) := by
  unfold f_X3_addMethod
  have e1 : (stI σ 3 (Int.toNat (σ.1 1 1)) c).1 1 1 = σ.1 1 1 := by simp [stI_1]
  have e2 : (mth3 σ c e).1 1 1 = σ.1 1 1 := by simp [mth3, stI_1]
  have e3 : (stI (mth3 σ c e) 1 1 (σ.1 1 1 + 1)).1 1 1 = σ.1 1 1 + 1 := by simp [stI_1]
  rw [ck_pos (by omega), e1, ck_pos (by omega), bind_s]
  show ((if c < 0 then ck (inR ((mth3 σ c e).1 1 1 + 1)) (ck (inR ((stI (mth3 σ c e) 1 1 ((mth3 σ c e).1 1 1 + 1)).1 1 1 - 1)) (some ((stI (mth3 σ c e) 1 1 ((mth3 σ c e).1 1 1 + 1)).1 1 1 - 1, stI (mth3 σ c e) 1 1 ((mth3 σ c e).1 1 1 + 1)))) else _) : Option (Int × Mm)).bind _ = _
  rw [if_pos hc, e2, ck_pos (by omega), e3, ck_pos (by omega), bind_s]
  unfold f_X6_changed
  rw [bind_s]
  unfold mthZ
  rw [e2]
  congr 2
  omega
theorem e_addI {σ : Mm} {c e : Nat} (h : 0 ≤ σ.1 1 1 ∧ σ.1 1 1 < 12) (hn : σ.1 1 0 ≤ 10) (hc : (c : Int) < σ.1 1 0) (he : e < 8) (H : ∀ low : Nat, (low : Int) < σ.1 1 0 → σ.1 5 (low * 8 + e) < 12) : (f_X3_addMethod c e σ).bind (fun r4 => (f_X6_changed r4.1 r4.2).bind (fun r7 => some (r7.1, r7.2))) = some (σ.1 1 1, mthZ (msetP (mth3 σ c e) c e (σ.1 1 1) (Int.toNat (σ.1 1 0)))) := by
  unfold f_X3_addMethod
  have e1 : (stI σ 3 (Int.toNat (σ.1 1 1)) c).1 1 1 = σ.1 1 1 := by simp [stI_1]
  have e2 : (mth3 σ c e).1 1 1 = σ.1 1 1 := by simp [mth3, stI_1]
  have e10 : (mth3 σ c e).1 1 0 = σ.1 1 0 := by simp [mth3, stI_1]
  have e5 : (mth3 σ c e).1 5 = σ.1 5 := by funext j; simp [mth3, stI_1]
  rw [ck_pos (by omega), e1, ck_pos (by omega), bind_s]
  show ((if (c : Int) < 0 then _ else (f_X3_setMeant c e ((mth3 σ c e).1 1 1) (mth3 σ c e)).bind (fun r10 => ck (inR ((r10.1 1 1) + 1)) (ck (inR (((stI r10 1 1 ((r10.1 1 1) + 1)).1 1 1) - 1)) (some ((((stI r10 1 1 ((r10.1 1 1) + 1)).1 1 1) - 1), (stI r10 1 1 ((r10.1 1 1) + 1))))))) : Option (Int × Mm)).bind _ = _
  rw [if_neg (by omega), e2, setMeant_eq (by rw [e10]; exact hn) (by rw [e10]; exact hc) he (by rw [e10, e5]; exact H), bind_s, e10]
  have e6 : (msetP (mth3 σ c e) c e (σ.1 1 1) (Int.toNat (σ.1 1 0))).1 1 1 = σ.1 1 1 := by rw [msetP_x (by decide), e2]
  have e7 : (stI (msetP (mth3 σ c e) c e (σ.1 1 1) (Int.toNat (σ.1 1 0))) 1 1 (σ.1 1 1 + 1)).1 1 1 = σ.1 1 1 + 1 := by simp [stI_1]
  rw [e6, ck_pos (by omega), e7, ck_pos (by omega), bind_s]
  unfold f_X6_changed
  rw [bind_s]
  unfold mthZ
  rw [e6]
  congr 2
  omega
/-- the new PROGRAM, for a METHOD of a CLASS (c a number of one) or a STATIC one (c = -1), given what became of the row meant -/
theorem PR_method {σC σM : Mm} (h : PR σC σM) {c e : Int} (hm : σC.1 1 1 < 12) (hce : (c = -1 ∧ e = -1) ∨ (0 ≤ c ∧ c < σC.1 1 0 ∧ 0 ≤ e ∧ e < 8)) (hfree : 0 ≤ c → ¬ hasM σC c e) {τ : Mm} (ht : ∀ k, k ≠ 5 → τ.1 k = (mth3 σC c e).1 k) (h4 : PR4 (mthZ τ) (mthM σM c e)) : PR (mthZ τ) (mthM σM c e) := by
  obtain ⟨h1, h2, h3, -, h5, h6, h7⟩ := h
  obtain ⟨⟨b1, b2⟩, ⟨b3, b4⟩, ⟨b5, b6⟩, ⟨b7, b8⟩, g0, g2, g7, g8⟩ := id h1
  obtain ⟨n, hn0⟩ : ∃ n : Nat, σC.1 1 1 = n := ⟨Int.toNat (σC.1 1 1), by omega⟩
  have z11 : (mthZ τ).1 1 1 = σC.1 1 1 + 1 := by
    have : τ.1 1 1 = σC.1 1 1 := by rw [ht 1 (by decide)]; simp [mth3, stI_1]
    simp [mthZ, stI_1, this]
  have z1x : ∀ j, j ≠ 1 → (mthZ τ).1 1 j = σC.1 1 j := fun j hj => by
    have : τ.1 1 j = σC.1 1 j := by rw [ht 1 (by decide)]; simp [mth3, stI_1]
    simp [mthZ, stI_1, hj, this]
  have z3 : ∀ j, (mthZ τ).1 3 j = if j = n then c else σC.1 3 j := fun j => by
    have : τ.1 3 j = if j = n then c else σC.1 3 j := by rw [ht 3 (by decide)]; simp [mth3, stI_1, hn0]
    simp [mthZ, stI_1, this]
  have z4 : ∀ j, (mthZ τ).1 4 j = if j = n then e else σC.1 4 j := fun j => by
    have : τ.1 4 j = if j = n then e else σC.1 4 j := by rw [ht 4 (by decide)]; simp [mth3, stI_1, hn0]
    simp [mthZ, stI_1, this]
  have zx : ∀ k, k ≠ 0 → k ≠ 1 → k ≠ 3 → k ≠ 4 → k ≠ 5 → (mthZ τ).1 k = σC.1 k := fun k k0 k1 k3 k4 k5 => by
    funext j
    have : τ.1 k j = σC.1 k j := by rw [ht k k5]; simp [mth3, stI_1, k3, k4]
    simp [mthZ, stI_1, this, k0, k1]
  have w2 : ∀ j, (mthM σM c e).1 2 j = if j = n then c else σM.1 2 j := fun j => by simp [mthM, stI_1, g2, hn0]
  have w3 : ∀ j, (mthM σM c e).1 3 j = if j = n then e else σM.1 3 j := fun j => by simp [mthM, stI_1, g2, hn0]
  have w4 : ∀ j, (mthM σM c e).1 4 j = if j = n then 0 else σM.1 4 j := fun j => by simp [mthM, stI_1, g2, hn0]
  have w02 : (mthM σM c e).1 0 2 = σC.1 1 1 + 1 := by simp [mthM, stI_1, g2]
  have w0x : ∀ j, j ≠ 2 → j ≠ 16 → j ≠ 37 → (mthM σM c e).1 0 j = σM.1 0 j := fun j h1 h2 h3 => by simp [mthM, stI_1, h1, h2, h3]
  have wx : ∀ k, k ≠ 0 → k ≠ 2 → k ≠ 3 → k ≠ 4 → (mthM σM c e).1 k = σM.1 k := fun k k0 k2 k3 k4 => by
    funext j
    simp [mthM, stI_1, k0, k2, k3, k4]
  have k0 := z1x 0 (by decide); have k2 := z1x 2 (by decide); have k3 := z1x 3 (by decide)
  have x2 := zx 2 (by decide) (by decide) (by decide) (by decide) (by decide); have x6 := zx 6 (by decide) (by decide) (by decide) (by decide) (by decide); have x7 := zx 7 (by decide) (by decide) (by decide) (by decide) (by decide); have x8 := zx 8 (by decide) (by decide) (by decide) (by decide) (by decide); have x9 := zx 9 (by decide) (by decide) (by decide) (by decide) (by decide); have x10 := zx 10 (by decide) (by decide) (by decide) (by decide) (by decide); have x11 := zx 11 (by decide) (by decide) (by decide) (by decide) (by decide); have x12 := zx 12 (by decide) (by decide) (by decide) (by decide) (by decide); have x13 := zx 13 (by decide) (by decide) (by decide) (by decide) (by decide); have x14 := zx 14 (by decide) (by decide) (by decide) (by decide) (by decide)
  have y1 := wx 1 (by decide) (by decide) (by decide) (by decide); have y5 := wx 5 (by decide) (by decide) (by decide) (by decide); have y6 := wx 6 (by decide) (by decide) (by decide) (by decide); have y7 := wx 7 (by decide) (by decide) (by decide) (by decide); have y8 := wx 8 (by decide) (by decide) (by decide) (by decide); have y9 := wx 9 (by decide) (by decide) (by decide) (by decide); have y10 := wx 10 (by decide) (by decide) (by decide) (by decide); have y11 := wx 11 (by decide) (by decide) (by decide) (by decide); have y12 := wx 12 (by decide) (by decide) (by decide) (by decide)
  refine ⟨?_, ?_, ?_, h4, ?_, ?_, ?_⟩
  · unfold PR1
    rw [k0, z11, k2, k3, w02, w0x 0 (by decide) (by decide) (by decide), w0x 7 (by decide) (by decide) (by decide), w0x 8 (by decide) (by decide) (by decide)]
    exact ⟨by omega, by omega, by omega, by omega, g0, rfl, g7, g8⟩
  · unfold PR2
    rw [k0, x2, y1]
    exact h2
  · intro m hm'
    rw [z11] at hm'
    simp only [k0, z11]
    by_cases hmn : m = n
    · subst hmn
      rw [z3, z4, w2, w3, if_pos rfl, if_pos rfl, if_pos rfl, if_pos rfl]
      refine ⟨⟨rfl, rfl⟩, by omega, fun z => by omega, fun z => by omega, fun m' h1' h0 h2' h3' => ?_⟩
      by_cases hmm : m' = m
      · exact hmm.symm
      · rw [z3, if_neg hmm] at h2'
        rw [z4, if_neg hmm] at h3'
        exact absurd ⟨m', by omega, h2'.symm, h3'.symm⟩ (hfree h0)
    · rw [z3, z4, w2, w3, if_neg hmn, if_neg hmn, if_neg hmn, if_neg hmn]
      obtain ⟨q1, q2, q3, q4, q5⟩ := h3 m (by omega)
      refine ⟨q1, q2, q3, q4, fun m' h1' h0 h2' h3' => ?_⟩
      by_cases hmm : m' = n
      · subst hmm
        rw [z3, if_pos rfl] at h2'
        rw [z4, if_pos rfl] at h3'
        exact absurd ⟨m, by omega, h2', h3'⟩ (hfree (by omega))
      · rw [z3, if_neg hmm] at h2'
        rw [z4, if_neg hmm] at h3'
        exact q5 m' (by omega) h0 h2' h3'
  · intro m hm12
    simp only [x6, x7, x13, x14, y5, z11, k2]
    obtain ⟨q1, q2, q3⟩ := h5 m hm12
    refine ⟨q1, fun z => q2 (by omega), fun z => ?_⟩
    rw [w4]
    by_cases hmn : m = n
    · subst hmn
      have e0 := q2 (by omega)
      rw [if_pos rfl, e0]
      exact ⟨rfl, fun p hp => by omega⟩
    · rw [if_neg hmn]
      exact q3 (by omega)
  · intro s hs
    rw [k2] at hs
    simp only [x6, x7, x8, x9, x10, x11, x12, x13, x14, y6, y7, y8, y9, y10, y11, y12, k0, z11]
    obtain ⟨q1, q2, q3, q4, q5⟩ := h6 s hs
    refine ⟨q1, ⟨q2.1, by omega⟩, q3, q4, ?_⟩
    refine okS_mono (Int.le_refl _) (by omega) (fun j hj hz => ?_) q5
    rw [z3, if_neg (by omega)]
    exact hz
  · unfold PR7
    rw [k3, k2, x8]
    exact h7
