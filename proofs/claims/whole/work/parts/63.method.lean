/-! method -/
/-- whether the METHOD that is meant now gives way -/
def nearer (σ : Mm) (c j : Nat) : Prop := σ.1 5 j < 0 ∨ σ.1 3 (Int.toNat (σ.1 5 j)) < c
def mcond (σ : Mm) (c e j : Nat) : Prop := j % 8 = e ∧ c ≤ j / 8 ∧ blw σ (j / 8) c = true ∧ (σ.1 5 j < 0 ∨ σ.1 3 (Int.toNat (σ.1 5 j)) < c)
noncomputable def msetP (σ : Mm) (c e : Nat) (M0 : Int) (low : Nat) : Mm := (fun a b => @ite _ (a = 5 ∧ mcond σ c e b ∧ b / 8 < low) (Classical.propDecidable _) M0 (σ.1 a b), σ.2)
theorem msetP_5 {σ : Mm} {c e low : Nat} {M0 : Int} {j : Nat} : (mcond σ c e j ∧ j / 8 < low → (msetP σ c e M0 low).1 5 j = M0) ∧ (¬ (mcond σ c e j ∧ j / 8 < low) → (msetP σ c e M0 low).1 5 j = σ.1 5 j) := by
  constructor
  · intro h
    show @ite _ (5 = 5 ∧ mcond σ c e j ∧ j / 8 < low) (Classical.propDecidable _) M0 (σ.1 5 j) = _
    rw [if_pos ⟨rfl, h⟩]
  · intro h
    show @ite _ (5 = 5 ∧ mcond σ c e j ∧ j / 8 < low) (Classical.propDecidable _) M0 (σ.1 5 j) = _
    rw [if_neg (fun z => h z.2)]
theorem msetP_x {σ : Mm} {c e low : Nat} {M0 : Int} {k : Nat} (hk : k ≠ 5) : (msetP σ c e M0 low).1 k = σ.1 k := by
  funext j
  show @ite _ (k = 5 ∧ mcond σ c e j ∧ j / 8 < low) (Classical.propDecidable _) M0 (σ.1 k j) = _
  rw [if_neg (fun z => hk z.1)]
theorem msetP_start {σ : Mm} {c e : Nat} {M0 : Int} : msetP σ c e M0 c = σ := by
  refine Prod.ext ?_ rfl
  funext a b
  by_cases ha : a = 5
  · subst ha
    refine (msetP_5 (j := b)).2 (fun z => ?_)
    have := z.1.2.1
    omega
  · rw [msetP_x ha]
theorem setMeant_aux {σ : Mm} {c e : Nat} {M0 : Int} (hn : 0 ≤ σ.1 1 0 ∧ σ.1 1 0 ≤ 10) (hc : c < 10) (he : e < 8) (H : ∀ low : Nat, (low : Int) < σ.1 1 0 → σ.1 5 (low * 8 + e) < 12) : ∀ (n f low : Nat), (low : Int) + n = σ.1 1 0 → n < f → c ≤ low → f_X3_setMeant_3 f c e M0 low (msetP σ c e M0 low) = some (msetP σ c e M0 (Int.toNat (σ.1 1 0))) := by
  intro n
  induction n with
  | zero =>
    intro f low h1 hf hcl
    obtain ⟨f, rfl⟩ : ∃ g, f = g + 1 := ⟨f - 1, by omega⟩
    rw [f_X3_setMeant_3, msetP_x (by decide), if_pos (by omega)]
    congr 2
    omega
  | succ n ih =>
    intro f low h1 hf hcl
    obtain ⟨f, rfl⟩ : ∃ g, f = g + 1 := ⟨f - 1, by omega⟩
    have ht : Int.toNat ((low : Int) * 8 + e) = low * 8 + e := by omega
    have hd8 : (low * 8 + e) / 8 = low := by omega
    have hm8 : (low * 8 + e) % 8 = e := by omega
    have r5 : (msetP σ c e M0 low).1 5 (low * 8 + e) = σ.1 5 (low * 8 + e) := msetP_5.2 (fun z => by have := z.2; omega)
    have hH := H low (by omega)
    -- the next step, with or without a change
    have hbl : ∀ s0 : Int, (s0 = 0 ∨ s0 = 1) → (s0 = 1 ↔ (σ.1 5 (low * 8 + e) < 0 ∨ σ.1 3 (Int.toNat (σ.1 5 (low * 8 + e))) < c)) → f_X3_setMeant_52 (f_X3_setMeant_3 f) c e M0 low ((low : Int) * 8 + e) s0 (msetP σ c e M0 low) = some (msetP σ c e M0 (Int.toNat (σ.1 1 0))) := by
      intro s0 hs hs1
      unfold f_X3_setMeant_52
      have hb2 : (msetP σ c e M0 low).1 2 = σ.1 2 := msetP_x (by decide)
      have hbw : blw (msetP σ c e M0 low) low c = blw σ low c := by unfold blw; rw [hb2]
      rw [e_liesBelow (by omega) (by omega), bind_s, hbw]
      have hnext : (low : Int) + 1 = ((low + 1 : Nat) : Int) := by omega
      cases hb : blw σ low c
      · have hsame : msetP σ c e M0 low = msetP σ c e M0 (low + 1) := by
          refine Prod.ext ?_ rfl
          funext a b
          by_cases ha : a = 5
          · subst ha
            by_cases hq : mcond σ c e b ∧ b / 8 < low
            · rw [msetP_5.1 hq, msetP_5.1 ⟨hq.1, by omega⟩]
            · rw [msetP_5.2 hq, msetP_5.2 (fun z => ?_)]
              have h8 : b / 8 = low := by have := z.2; have : ¬ b / 8 < low := fun y => hq ⟨z.1, y⟩; omega
              have := z.1.2.2.1
              rw [h8, hb] at this
              cases this
          · rw [msetP_x ha, msetP_x ha]
        rw [b01_f (by decide), if_pos rfl, ck_pos (by omega), hnext, hsame]
        exact ih f (low + 1) (by omega) (by omega) (by omega)
      · rw [b01_t rfl, if_neg (by decide)]
        rcases hs with rfl | rfl
        · have hsame : msetP σ c e M0 low = msetP σ c e M0 (low + 1) := by
            refine Prod.ext ?_ rfl
            funext a b
            by_cases ha : a = 5
            · subst ha
              by_cases hq : mcond σ c e b ∧ b / 8 < low
              · rw [msetP_5.1 hq, msetP_5.1 ⟨hq.1, by omega⟩]
              · rw [msetP_5.2 hq, msetP_5.2 (fun z => ?_)]
                have h8 : b / 8 = low := by have := z.2; have : ¬ b / 8 < low := fun y => hq ⟨z.1, y⟩; omega
                have hb9 : b = low * 8 + e := by have := z.1.1; omega
                have := z.1.2.2.2
                rw [hb9] at this
                exact absurd (hs1.mpr this) (by decide)
            · rw [msetP_x ha, msetP_x ha]
          rw [if_pos rfl, ck_pos (by omega), hnext, hsame]
          exact ih f (low + 1) (by omega) (by omega) (by omega)
        · have hnew : stI (msetP σ c e M0 low) 5 (low * 8 + e) M0 = msetP σ c e M0 (low + 1) := by
            refine Prod.ext ?_ rfl
            funext a b
            rw [stI_1]
            by_cases ha : a = 5
            · subst ha
              by_cases hq : b = low * 8 + e
              · subst hq
                rw [if_pos ⟨rfl, rfl⟩, msetP_5.1 ⟨⟨hm8, by omega, by rw [hd8]; exact hb, hs1.mp rfl⟩, by omega⟩]
              · rw [if_neg (fun z => hq z.2)]
                by_cases hq2 : mcond σ c e b ∧ b / 8 < low
                · rw [msetP_5.1 hq2, msetP_5.1 ⟨hq2.1, by omega⟩]
                · rw [msetP_5.2 hq2, msetP_5.2 (fun z => ?_)]
                  have h8 : b / 8 = low := by have := z.2; have : ¬ b / 8 < low := fun y => hq2 ⟨z.1, y⟩; omega
                  have := z.1.1
                  omega
            · rw [if_neg (fun z => ha z.1), msetP_x ha, msetP_x ha]
          rw [if_neg (by decide), ck_pos (by omega), ck_pos (by omega), ht, hnext, hnew]
          exact ih f (low + 1) (by omega) (by omega) (by omega)
    rw [f_X3_setMeant_3, msetP_x (by decide), if_neg (by omega), ck_pos (by omega), ck_pos (by omega), ht, r5]
    by_cases hneg : σ.1 5 (low * 8 + e) < 0
    · rw [if_pos hneg]
      exact hbl 1 (Or.inr rfl) ⟨fun _ => Or.inl hneg, fun _ => rfl⟩
    · rw [if_neg hneg, ck_pos (by omega), ck_pos (by omega), msetP_x (by decide)]
      by_cases hle : (c : Int) ≤ σ.1 3 (Int.toNat (σ.1 5 (low * 8 + e)))
      · rw [if_pos hle]
        exact hbl 0 (Or.inl rfl) ⟨fun z => absurd z (by decide), fun z => by omega⟩
      · rw [if_neg hle]
        exact hbl 1 (Or.inr rfl) ⟨fun _ => Or.inr (by omega), fun _ => rfl⟩
theorem setMeant_eq {σ : Mm} {c e : Nat} {M0 : Int} (hn : σ.1 1 0 ≤ 10) (hc : (c : Int) < σ.1 1 0) (he : e < 8) (H : ∀ low : Nat, (low : Int) < σ.1 1 0 → σ.1 5 (low * 8 + e) < 12) : f_X3_setMeant c e M0 σ = some (msetP σ c e M0 (Int.toNat (σ.1 1 0))) := by
  unfold f_X3_setMeant
  have h := setMeant_aux (M0 := M0) (⟨by omega, hn⟩ : 0 ≤ σ.1 1 0 ∧ σ.1 1 0 ≤ 10) (by omega) he H (Int.toNat (σ.1 1 0) - c) 2000 c (by omega) (by omega) (Nat.le_refl c)
  rw [msetP_start] at h
  exact h
/-- is there such a METHOD -/
def hasM (σ : Mm) (c e : Int) : Prop := ∃ m : Nat, (m : Int) < σ.1 1 1 ∧ σ.1 3 m = c ∧ σ.1 4 m = e
theorem isFree_aux {σ : Mm} {c e : Int} (hm : 0 ≤ σ.1 1 1 ∧ σ.1 1 1 ≤ 12) : ∀ (n f j : Nat), (j : Int) + n = σ.1 1 1 → n < f → (∀ m : Nat, m < j → ¬ (σ.1 3 m = c ∧ σ.1 4 m = e)) → (hasM σ c e → f_X3_isFreeFor_21 f c e j σ = some 0) ∧ (¬ hasM σ c e → f_X3_isFreeFor_21 f c e j σ = some 1) := by
  intro n
  induction n with
  | zero =>
    intro f j hj hf hno
    obtain ⟨f, rfl⟩ : ∃ g, f = g + 1 := ⟨f - 1, by omega⟩
    rw [f_X3_isFreeFor_21, if_pos (by omega)]
    exact ⟨fun ⟨m, h1, h2, h3⟩ => absurd ⟨h2, h3⟩ (hno m (by omega)), fun _ => rfl⟩
  | succ n ih =>
    intro f j hj hf hno
    obtain ⟨f, rfl⟩ : ∃ g, f = g + 1 := ⟨f - 1, by omega⟩
    rw [f_X3_isFreeFor_21, if_neg (by omega), ck_pos (by omega), Int.toNat_natCast]
    have hnext : ¬ (σ.1 3 j = c ∧ σ.1 4 j = e) → (hasM σ c e → ck (inR ((j : Int) + 1)) (f_X3_isFreeFor_21 f c e ((j : Int) + 1) σ) = some 0) ∧ (¬ hasM σ c e → ck (inR ((j : Int) + 1)) (f_X3_isFreeFor_21 f c e ((j : Int) + 1) σ) = some 1) := fun hne => by
      rw [ck_pos (by omega), show (j : Int) + 1 = ((j + 1 : Nat) : Int) by omega]
      exact ih f (j + 1) (by omega) (by omega) (fun m hm => by
        by_cases hmj : m = j
        · subst hmj; exact hne
        · exact hno m (by omega))
    by_cases hx : σ.1 3 j = c
    · rw [if_pos hx, ck_pos (by omega)]
      by_cases hy : σ.1 4 j = e
      · rw [if_pos hy]
        exact ⟨fun _ => rfl, fun z => absurd ⟨j, by omega, hx, hy⟩ z⟩
      · rw [if_neg hy]
        exact hnext (fun z => hy z.2)
    · rw [if_neg hx]
      exact hnext (fun z => hx z.1)
theorem gmeth_aux {σC σM : Mm} (h1 : PR1 σC σM) (h3 : PR3 σC σM) {c e : Int} (hc : c ≠ -1) : ∀ (n f j : Nat), (j : Int) + n = σC.1 1 1 → n < f → (∀ m : Nat, m < j → ¬ (σC.1 3 m = c ∧ σC.1 4 m = e)) → (hasM σC c e → f_X7_method_27 f c e j σM = some (-1, σM)) ∧ (¬ hasM σC c e → f_X7_method_27 f c e j σM = f_X7_method_68 c e σM) := by
  obtain ⟨-, hm, -, -, -, hme, -⟩ := h1
  intro n
  induction n with
  | zero =>
    intro f j hj hf hno
    obtain ⟨f, rfl⟩ : ∃ g, f = g + 1 := ⟨f - 1, by omega⟩
    rw [f_X7_method_27, if_pos (by omega)]
    exact ⟨fun ⟨m, h1, h2, h3⟩ => absurd ⟨h2, h3⟩ (hno m (by omega)), fun _ => rfl⟩
  | succ n ih =>
    intro f j hj hf hno
    obtain ⟨f, rfl⟩ : ∃ g, f = g + 1 := ⟨f - 1, by omega⟩
    obtain ⟨⟨q1, q2⟩, -⟩ := h3 j (by omega)
    rw [f_X7_method_27, if_neg (by omega), if_neg hc, ck_pos (by omega), Int.toNat_natCast, q1]
    have hnext : ¬ (σC.1 3 j = c ∧ σC.1 4 j = e) → (hasM σC c e → ck (inR ((j : Int) + 1)) (f_X7_method_27 f c e ((j : Int) + 1) σM) = some (-1, σM)) ∧ (¬ hasM σC c e → ck (inR ((j : Int) + 1)) (f_X7_method_27 f c e ((j : Int) + 1) σM) = f_X7_method_68 c e σM) := fun hne => by
      rw [ck_pos (by omega), show (j : Int) + 1 = ((j + 1 : Nat) : Int) by omega]
      exact ih f (j + 1) (by omega) (by omega) (fun m hm => by
        by_cases hmj : m = j
        · subst hmj; exact hne
        · exact hno m (by omega))
    by_cases hx : σC.1 3 j = c
    · rw [if_pos hx, ck_pos (by omega), q2]
      by_cases hy : σC.1 4 j = e
      · rw [if_pos hy]
        exact ⟨fun _ => rfl, fun z => absurd ⟨j, by omega, hx, hy⟩ z⟩
      · rw [if_neg hy]
        exact hnext (fun z => hy z.2)
    · rw [if_neg hx]
      exact hnext (fun z => hx z.1)
