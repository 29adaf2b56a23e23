/-! THE INVARIANT -/
def thg (n c m : Int) : Prop := (-1 ≤ m ∧ m < n) ∧ c = if m < 0 then -9 else m
/-- an OBJECT, as far as the PROGRAM alone tells -/
def HpA (σC σM : Mm) (i : Nat) : Prop := (σC.1 51 i = σM.1 21 i ∧ σC.1 52 i = σM.1 22 i ∧ σC.1 53 i = σM.1 23 i) ∧ (0 ≤ σM.1 21 i ∧ σM.1 21 i < σC.1 1 2) ∧ σC.1 8 (Int.toNat (σM.1 21 i)) ≤ 1 ∧ σM.1 29 i = (mcl σC (Int.toNat (σM.1 21 i)) : Nat) ∧ ∀ p, p < 5 → thg (σM.1 0 46) (σC.1 54 (5 * i + p)) (σM.1 24 (5 * i + p))
def TlA (σC σM : Mm) : Prop := (σC.1 50 1 = σM.1 0 46 ∧ 0 ≤ σM.1 0 46 ∧ σM.1 0 46 ≤ 300) ∧ σC.1 49 0 = σM.1 0 38 ∧ σC.1 49 1 = σM.1 0 39 ∧ σC.1 49 2 = σM.1 0 46 ∧ σC.1 49 3 = σM.1 0 44 ∧ σC.1 49 4 = σM.1 0 45 ∧ σC.1 49 5 = σM.1 0 40 ∧ σC.1 49 6 = σM.1 0 41 ∧ thg (σM.1 0 46) (σC.1 49 7) (σM.1 0 42) ∧ σC.1 49 8 = σM.1 0 43
def RN (σC σM : Mm) : Prop := TlA σC σM ∧ ∀ i : Nat, (i : Int) < σM.1 0 46 → HpA σC σM i
def Inv (σC σM : Mm) : Prop := PR σC σM ∧ (σC.1 0 5 = σM.1 0 16 ∧ (σM.1 0 16 = 0 ∨ σM.1 0 16 = 1)) ∧ (σC.1 0 6 = σM.1 0 37 ∧ (σM.1 0 37 = 0 ∨ σM.1 0 37 = 1)) ∧ σC.1 15 8 = σM.1 0 21 ∧ (σM.1 0 16 = 1 → FDn σC σM) ∧ (σM.1 0 37 = 1 → σM.1 0 16 = 1 ∧ RN σC σM)
theorem RN_gen {σC σC' σM σM' : Mm} (h : RN σC σM) (c1 : σC'.1 1 2 = σC.1 1 2) (c8 : σC'.1 8 = σC.1 8) (c10 : σC'.1 10 = σC.1 10) (cC : ∀ k, 49 ≤ k → k ≤ 54 → σC'.1 k = σC.1 k) (cM : ∀ k, 21 ≤ k → k ≤ 29 → σM'.1 k = σM.1 k) (cm : ∀ j, 38 ≤ j → j ≤ 46 → σM'.1 0 j = σM.1 0 j) : RN σC' σM' := by
  obtain ⟨h1, h2⟩ := h
  have mce : ∀ i, mcl σC' i = mcl σC i := fun i => by unfold mcl; rw [c8, c10]
  refine ⟨?_, fun i hi => ?_⟩
  · unfold TlA
    rw [cC 49 (by omega) (by omega), cC 50 (by omega) (by omega), cm 38 (by omega) (by omega), cm 39 (by omega) (by omega), cm 40 (by omega) (by omega), cm 41 (by omega) (by omega), cm 42 (by omega) (by omega), cm 43 (by omega) (by omega), cm 44 (by omega) (by omega), cm 45 (by omega) (by omega), cm 46 (by omega) (by omega)]
    exact h1
  · rw [cm 46 (by omega) (by omega)] at hi
    have := h2 i hi
    unfold HpA at this ⊢
    rw [mce, cC 51 (by omega) (by omega), cC 52 (by omega) (by omega), cC 53 (by omega) (by omega), cC 54 (by omega) (by omega), cM 21 (by omega) (by omega), cM 22 (by omega) (by omega), cM 23 (by omega) (by omega), cM 24 (by omega) (by omega), cM 29 (by omega) (by omega), cm 46 (by omega) (by omega), c1, c8]
    exact this
/-! at the start -/
theorem ib_one : ∀ d : Nat, d < 10 → ib 1 d = decide (d = 0) := by decide +kernel
theorem PR_init : PR (sm_X6_init σz) (sm_X7_init σz) := by
  have c10 : (sm_X6_init σz).1 1 0 = 1 := rfl
  have c11 : (sm_X6_init σz).1 1 1 = 0 := rfl
  have c12 : (sm_X6_init σz).1 1 2 = 0 := rfl
  have c13 : (sm_X6_init σz).1 1 3 = 0 := rfl
  have c2 : (sm_X6_init σz).1 2 0 = 1 := rfl
  have m0 : (sm_X7_init σz).1 0 0 = 1 := rfl
  have m2 : (sm_X7_init σz).1 0 2 = 0 := rfl
  have m7 : (sm_X7_init σz).1 0 7 = 0 := rfl
  have m8 : (sm_X7_init σz).1 0 8 = 0 := rfl
  have m1 : (sm_X7_init σz).1 1 0 = -1 := rfl
  have c5 : ∀ j, j < 80 → (sm_X6_init σz).1 5 j = -1 := by decide
  have c6 : ∀ j, j < 12 → (sm_X6_init σz).1 6 j = 0 := by decide
  refine ⟨⟨by omega, by omega, by omega, by omega, by omega, by omega, by omega, by omega⟩, ⟨m1, fun c hc => ?_⟩, fun m hm => by omega, fun c e hc he => ?_, fun m hm => ?_, fun s hs => by omega, ?_⟩
  · obtain rfl : c = 0 := by omega
    refine ⟨fun z => by omega, fun d hd => ?_⟩
    rw [c2, ib_one d hd]
    simp
  · obtain rfl : c = 0 := by omega
    rw [c5 _ (by omega)]
    exact ⟨fun m hm => by omega, fun _ => by rw [if_pos rfl], by omega, fun z => by omega⟩
  · rw [c6 m hm]
    exact ⟨by omega, fun _ => rfl, fun z => by omega⟩
  · unfold PR7
    rw [c13, c12]
    rfl
theorem Inv_init : Inv (sm_X6_init σz) (sm_X7_init σz) := by
  have a1 : (sm_X6_init σz).1 0 5 = 0 := rfl
  have a2 : (sm_X6_init σz).1 0 6 = 0 := rfl
  have a3 : (sm_X7_init σz).1 0 16 = 0 := rfl
  have a4 : (sm_X7_init σz).1 0 37 = 0 := rfl
  have a5 : (sm_X6_init σz).1 15 8 = 0 := rfl
  have a6 : (sm_X7_init σz).1 0 21 = 0 := rfl
  exact ⟨PR_init, ⟨by omega, by omega⟩, ⟨by omega, by omega⟩, by omega, fun z => by omega, fun z => by omega⟩
/-! the calls that change the PROGRAM -/
theorem Inv_Sim1 {σC σM : Mm} (hI : Inv σC σM) {rC rM : Option (Int × Mm)} (h : Sim1 rC rM σC σM) : ∃ (r : Int) (σC' : Mm) (σM' : Mm), rC = some (r, σC') ∧ rM = some (r, σM') ∧ Inv σC' σM' := by
  rcases h with ⟨r, h1, h2⟩ | ⟨r, σC', σM', h1, h2, h3, c1, c2, c3, c4, c5, c6⟩
  · exact ⟨r, σC, σM, h1, h2, hI⟩
  · obtain ⟨-, -, -, hr, -⟩ := hI
    exact ⟨r, σC', σM', h1, h2, h3, ⟨by omega, by omega⟩, ⟨by omega, by omega⟩, by omega, fun z => by omega, fun z => by omega⟩
theorem st_cls : St_cls Inv := fun x σC σM _ _ _ hI => Inv_Sim1 hI (cls_sim hI.1 x)
theorem st_method : St_method Inv := fun x y σC σM _ _ _ _ hI => Inv_Sim1 hI (method_sim hI.1 x y)
theorem st_step : St_step Inv := fun m k a b c d σC σM _ _ _ _ _ _ _ _ hI => Inv_Sim1 hI (step_sim hI.1 m k a b c d)
/-! work -/
theorem st_work : St_work Inv := by
  intro x1 x2 x3 σC σM _ _ _ _ _ hI
  obtain ⟨hP, -, -, -, -, -⟩ := id hI
  have h11 := hP.1.2.1
  obtain ⟨-, -, -, -, -, e2, -⟩ := hP.1
  unfold f_X6_work f_X7_work
  rw [e_isStatic x1 (by omega), g_isStatic x1 (by omega), bind_s, bind_s, e2]
  have hsame : (0 ≤ x1 ∧ x1 < σC.1 1 1 ∧ σM.1 2 (Int.toNat x1) < 0) ↔ (0 ≤ x1 ∧ x1 < σC.1 1 1 ∧ σC.1 3 (Int.toNat x1) < 0) := by
    constructor
    · rintro ⟨z1, z2, z3⟩
      have := (hP.2.2.1 (Int.toNat x1) (by omega)).1.1
      exact ⟨z1, z2, by omega⟩
    · rintro ⟨z1, z2, z3⟩
      have := (hP.2.2.1 (Int.toNat x1) (by omega)).1.1
      exact ⟨z1, z2, by omega⟩
  by_cases hs : 0 ≤ x1 ∧ x1 < σC.1 1 1 ∧ σC.1 3 (Int.toNat x1) < 0
  · rw [b01_t hs, b01_t (hsame.mpr hs), if_neg (by omega), if_neg (by omega), e_isIn, g_in, bind_s, bind_s]
    by_cases h2 : 0 ≤ x2 ∧ x2 ≤ 2
    · rw [b01_t (show 0 ≤ x2 ∧ x2 < 3 by omega), b01_t h2, if_neg (by omega), if_neg (by omega), e_isIn, g_in, bind_s, bind_s]
      by_cases h3 : 0 ≤ x3 ∧ x3 ≤ 2
      · rw [b01_t (show 0 ≤ x3 ∧ x3 < 3 by omega), b01_t h3, if_neg (by omega), if_neg (by omega)]
        have hP' : PR (stI (stI (stI σC 0 4 x1) 0 5 1) 0 6 0) (stI σM 0 17 x1) := PR_congr hP (fun k q1 _ => by funext i; rw [stI_1, if_neg (by omega), stI_1, if_neg (by omega), stI_1, if_neg (by omega)]) (fun k q1 _ => by funext i; rw [stI_1, if_neg (by omega)]) (by rw [stI_1, if_neg (by omega)]) (by rw [stI_1, if_neg (by omega)]) (by rw [stI_1, if_neg (by omega)]) (by rw [stI_1, if_neg (by omega)])
        have p1 : (stI (stI (stI σC 0 4 x1) 0 5 1) 0 6 0).1 1 1 = σC.1 1 1 := by rw [stI_1, if_neg (by omega), stI_1, if_neg (by omega), stI_1, if_neg (by omega)]
        obtain ⟨r, σ', τ', w1, w2, w3, w4, w5, w6, w7, w8, w9, w10⟩ := find_sim (Or.inl rfl) hP' (start := x1) (mode := x2) (depth := x3) (by rw [stI_1, if_pos ⟨rfl, rfl⟩]) h2 h3 (by rw [p1]; exact ⟨hs.1, hs.2.1⟩)
        rw [w1, w2, bind_s, bind_s]
        have z0 := (w3 0 (Or.inl (by omega))).1
        have c4 : σ'.1 0 4 = x1 := by rw [z0, stI_1, if_neg (by omega), stI_1, if_neg (by omega), stI_1, if_pos ⟨rfl, rfl⟩]
        have c5 : σ'.1 0 5 = 1 := by rw [z0, stI_1, if_neg (by omega), stI_1, if_pos ⟨rfl, rfl⟩]
        have c6 : σ'.1 0 6 = 0 := by rw [z0, stI_1, if_pos ⟨rfl, rfl⟩]
        generalize hτ2 : stI (stI (stI τ' 0 20 x3) 0 16 1) 0 37 0 = τ2
        have k : ∀ a i, ¬ (a = 0 ∧ (i = 20 ∨ i = 16 ∨ i = 37)) → τ2.1 a i = τ'.1 a i := fun a i hk => by rw [← hτ2, stI_1, if_neg (by omega), stI_1, if_neg (by omega), stI_1, if_neg (by omega)]
        have k20 : τ2.1 0 20 = x3 := by rw [← hτ2, stI_1, if_neg (by omega), stI_1, if_neg (by omega), stI_1, if_pos ⟨rfl, rfl⟩]
        have k16 : τ2.1 0 16 = 1 := by rw [← hτ2, stI_1, if_neg (by omega), stI_1, if_pos ⟨rfl, rfl⟩]
        have k37 : τ2.1 0 37 = 0 := by rw [← hτ2, stI_1, if_pos ⟨rfl, rfl⟩]
        have kl : τ2.2 = τ'.2 := by rw [← hτ2]; rfl
        clear hτ2
        have hMG : MG τ' τ2 := ⟨fun a q1 q2 => ⟨by funext i; exact k a i (by omega), by rw [kl]⟩, fun j q1 q2 q3 => k 0 j (by omega)⟩
        have hfd := FdEnd_gen w5 AG.rf hMG
        have hroot : Root τ2 x1 := by
          unfold Root
          rw [k 0 24 (by omega), k 13 0 (by omega), k 14 0 (by omega), k 15 0 (by omega)]
          exact w6
        have hld : LdOk 15 σ' τ2 := fun K hK i hi => by
          rw [k 0 24 (by omega)] at hK
          rw [ldN_MG hMG, onB_MG hMG]
          exact w7 K hK i hi
        have hpr := CF_prog (Or.inl rfl) w3
        refine ⟨r, σ', τ2, rfl, ?_, hfd.1.1, ⟨by omega, by omega⟩, ⟨by omega, by omega⟩, hfd.1.2.1.1.2.2.2.2.2, fun _ => ⟨hfd, by rw [c4]; exact hroot, hld, ?_, ?_, by omega, r, stI (stI (stI σC 0 4 x1) 0 5 1) 0 6 0, σ', ?_, ?_, fun _ _ _ => rfl, fun _ _ _ _ => rfl⟩, fun z => by omega⟩
        · show some (τ2.1 0 19, τ2) = some (r, τ2)
          rw [k 0 19 (by omega), w8]
        · rw [k 0 17 (by omega), c4]; exact w10
        · rw [c4, hpr 1 (by omega) (by omega), p1]; exact ⟨hs.1, hs.2.1⟩
        · intro a q1 q2; exact (hpr a q1 q2).symm
        · rw [c4, k20, k 0 18 (by omega), w9]; exact w1
      · rw [b01_f (show ¬ (0 ≤ x3 ∧ x3 < 3) by omega), b01_f h3, if_pos rfl, if_pos rfl]
        exact ⟨_, σC, σM, rfl, rfl, hI⟩
    · rw [b01_f (show ¬ (0 ≤ x2 ∧ x2 < 3) by omega), b01_f h2, if_pos rfl, if_pos rfl]
      exact ⟨_, σC, σM, rfl, rfl, hI⟩
  · rw [b01_f hs, b01_f (fun z => hs (hsame.mp z)), if_pos rfl, if_pos rfl]
    exact ⟨_, σC, σM, rfl, rfl, hI⟩
