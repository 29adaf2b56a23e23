theorem PR4_static {σC σM : Mm} (h : PR σC σM) : PR4 (mthZ (mth3 σC (-1) (-1))) (mthM σM (-1) (-1)) := by
  obtain ⟨h1, h2, h3, h4, -⟩ := h
  obtain ⟨⟨b1, b2⟩, ⟨b3, b4⟩, -, -, g0, g2, -⟩ := id h1
  obtain ⟨n, hn0⟩ : ∃ n : Nat, σC.1 1 1 = n := ⟨Int.toNat (σC.1 1 1), by omega⟩
  have z10 : (mthZ (mth3 σC (-1) (-1))).1 1 0 = σC.1 1 0 := by simp [mthZ, mth3, stI_1]
  have z11 : (mthZ (mth3 σC (-1) (-1))).1 1 1 = σC.1 1 1 + 1 := by simp [mthZ, mth3, stI_1]
  have z3 : ∀ j, (mthZ (mth3 σC (-1) (-1))).1 3 j = if j = n then -1 else σC.1 3 j := fun j => by simp [mthZ, mth3, stI_1, hn0]
  have z4 : ∀ j, (mthZ (mth3 σC (-1) (-1))).1 4 j = if j = n then -1 else σC.1 4 j := fun j => by simp [mthZ, mth3, stI_1, hn0]
  have z5 : (mthZ (mth3 σC (-1) (-1))).1 5 = σC.1 5 := by funext j; simp [mthZ, mth3, stI_1]
  have y1 : (mthM σM (-1) (-1)).1 1 = σM.1 1 := by funext j; simp [mthM, stI_1]
  intro c e hc he
  rw [z10] at hc
  rw [z5, y1, z11]
  obtain ⟨p1, p2, p3, p4⟩ := h4 c e hc he
  refine ⟨fun m hm hmc hme => ?_, fun hno => ?_, p3, fun h0 => ?_⟩
  · rw [z3] at hmc
    rw [z4] at hme
    by_cases hmn : m = n
    · rw [if_pos hmn] at hmc; omega
    · rw [if_neg hmn] at hmc hme
      exact p1 m (by omega) hmc hme
  · refine p2 (fun m hm z => hno m (by omega) ?_)
    rw [z3, z4, if_neg (by omega), if_neg (by omega)]
    exact z
  · obtain ⟨q1, q2, q3, q4⟩ := p4 h0
    rw [z3, z4, if_neg (by omega), if_neg (by omega)]
    exact ⟨by omega, q2, q3, q4⟩
theorem PR4_own {σC σM : Mm} (h : PR σC σM) {c e : Nat} (hc : (c : Int) < σC.1 1 0) (he : e < 8) (hfree : ¬ hasM σC c e) : PR4 (mthZ (msetP (mth3 σC c e) c e (σC.1 1 1) (Int.toNat (σC.1 1 0)))) (mthM σM c e) := by
  obtain ⟨h1, h2, h3, h4, -⟩ := h
  obtain ⟨⟨b1, b2⟩, ⟨b3, b4⟩, -, -, g0, g2, -⟩ := id h1
  obtain ⟨n, hn0⟩ : ∃ n : Nat, σC.1 1 1 = n := ⟨Int.toNat (σC.1 1 1), by omega⟩
  generalize hT : msetP (mth3 σC c e) c e (σC.1 1 1) (Int.toNat (σC.1 1 0)) = τ
  have tx : ∀ k, k ≠ 5 → τ.1 k = (mth3 σC c e).1 k := fun k hk => by rw [← hT]; exact msetP_x hk
  have s3 : ∀ j, (mth3 σC c e).1 3 j = if j = n then (c : Int) else σC.1 3 j := fun j => by simp [mth3, stI_1, hn0]
  have s4 : ∀ j, (mth3 σC c e).1 4 j = if j = n then (e : Int) else σC.1 4 j := fun j => by simp [mth3, stI_1, hn0]
  have s5 : (mth3 σC c e).1 5 = σC.1 5 := by funext j; simp [mth3, stI_1]
  have s2 : (mth3 σC c e).1 2 = σC.1 2 := by funext j; simp [mth3, stI_1]
  have z10 : (mthZ τ).1 1 0 = σC.1 1 0 := by
    have : τ.1 1 0 = σC.1 1 0 := by rw [tx 1 (by decide)]; simp [mth3, stI_1]
    simp [mthZ, stI_1, this]
  have z11 : (mthZ τ).1 1 1 = σC.1 1 1 + 1 := by
    have : τ.1 1 1 = σC.1 1 1 := by rw [tx 1 (by decide)]; simp [mth3, stI_1]
    simp [mthZ, stI_1, this]
  have z3 : ∀ j, (mthZ τ).1 3 j = if j = n then (c : Int) else σC.1 3 j := fun j => by
    rw [← s3, ← tx 3 (by decide)]; simp [mthZ, stI_1]
  have z4 : ∀ j, (mthZ τ).1 4 j = if j = n then (e : Int) else σC.1 4 j := fun j => by
    rw [← s4, ← tx 4 (by decide)]; simp [mthZ, stI_1]
  have z5 : ∀ j, (mthZ τ).1 5 j = τ.1 5 j := fun j => by simp [mthZ, stI_1]
  have y1 : (mthM σM c e).1 1 = σM.1 1 := by funext j; simp [mthM, stI_1]
  -- the old METHOD of a place is an old one
  have old : ∀ (c' e' : Nat), (c' : Int) < σC.1 1 0 → e' < 8 → 0 ≤ σC.1 5 (c' * 8 + e') → (mth3 σC c e).1 3 (Int.toNat (σC.1 5 (c' * 8 + e'))) = σC.1 3 (Int.toNat (σC.1 5 (c' * 8 + e'))) := fun c' e' h1' h2' h3' => by
    obtain ⟨-, -, -, p4⟩ := h4 c' e' h1' h2'
    have := (p4 h3').1
    rw [s3, if_neg (by omega)]
  -- when a place changes
  have cnd : ∀ (c' e' : Nat), (c' : Int) < σC.1 1 0 → e' < 8 → (mcond (mth3 σC c e) c e (c' * 8 + e') ↔ (e' = e ∧ blw σC c' c = true ∧ (σC.1 5 (c' * 8 + e') < 0 ∨ σC.1 3 (Int.toNat (σC.1 5 (c' * 8 + e'))) < c))) := by
    intro c' e' h1' h2'
    have hd : (c' * 8 + e') / 8 = c' := by omega
    have hm : (c' * 8 + e') % 8 = e' := by omega
    have hb : blw (mth3 σC c e) c' c = blw σC c' c := by unfold blw; rw [s2]
    unfold mcond
    rw [hd, hm, hb, s5]
    constructor
    · rintro ⟨r1, r2, r3, r4⟩
      refine ⟨r1, r3, ?_⟩
      by_cases h0 : 0 ≤ σC.1 5 (c' * 8 + e')
      · rw [old c' e' h1' h2' h0] at r4; exact r4
      · left; omega
    · rintro ⟨r1, r3, r4⟩
      refine ⟨r1, blw_le h2 b2 (by omega) (c' + 1) c' (by omega) h1' r3, r3, ?_⟩
      by_cases h0 : 0 ≤ σC.1 5 (c' * 8 + e')
      · rw [old c' e' h1' h2' h0]; exact r4
      · left; omega
  have new5 : ∀ (c' e' : Nat), (c' : Int) < σC.1 1 0 → e' < 8 → ((e' = e ∧ blw σC c' c = true ∧ (σC.1 5 (c' * 8 + e') < 0 ∨ σC.1 3 (Int.toNat (σC.1 5 (c' * 8 + e'))) < c)) → (mthZ τ).1 5 (c' * 8 + e') = σC.1 1 1) ∧ (¬ (e' = e ∧ blw σC c' c = true ∧ (σC.1 5 (c' * 8 + e') < 0 ∨ σC.1 3 (Int.toNat (σC.1 5 (c' * 8 + e'))) < c)) → (mthZ τ).1 5 (c' * 8 + e') = σC.1 5 (c' * 8 + e')) := by
    intro c' e' h1' h2'
    rw [z5, ← hT, ← cnd c' e' h1' h2']
    constructor
    · intro h; exact msetP_5.1 ⟨h, by omega⟩
    · intro h; rw [msetP_5.2 (fun z => h z.1), s5]
  have hself : blw σC c c = true := by
    unfold blw
    rw [(h2.2 c hc).2 c (by omega)]
    simp
  intro c' e' hc' he'
  rw [z10] at hc'
  obtain ⟨p1, p2, p3, p4⟩ := h4 c' e' hc' he'
  obtain ⟨n1, n2⟩ := new5 c' e' hc' he'
  rw [z11, y1]
  refine ⟨fun m hm hmc hme => ?_, fun hno => ?_, ?_, fun h0 => ?_⟩
  · rw [z3] at hmc
    rw [z4] at hme
    by_cases hmn : m = n
    · rw [if_pos hmn] at hmc hme
      have hcc : c' = c := by omega
      have hee : e' = e := by omega
      subst hcc; subst hee
      rw [n1 ⟨rfl, hself, ?_⟩]
      · omega
      · by_cases h9 : σC.1 5 (c' * 8 + e') < 0
        · exact Or.inl h9
        · right
          obtain ⟨q1, q2, q3, q4⟩ := p4 (by omega)
          rcases Int.lt_or_le (σC.1 3 (Int.toNat (σC.1 5 (c' * 8 + e')))) c' with h | h
          · exact h
          · exact absurd ⟨Int.toNat (σC.1 5 (c' * 8 + e')), by omega, by omega, q2⟩ hfree
    · rw [if_neg hmn] at hmc hme
      have e5 := p1 m (by omega) hmc hme
      rw [n2 (fun z => ?_), e5]
      rcases z.2.2 with h | h
      · omega
      · rw [e5, Int.toNat_natCast, hmc] at h
        have := blw_le h2 b2 (by omega) (c' + 1) c' (by omega) hc' z.2.1
        omega
  · have hne : ¬ (c' = c ∧ e' = e) := fun z => hno n (by omega) (by rw [z3, z4, if_pos rfl, if_pos rfl]; omega)
    have hold := p2 (fun m hm z => hno m (by omega) (by rw [z3, z4, if_neg (by omega), if_neg (by omega)]; exact z))
    by_cases h0 : c' = 0
    · subst h0
      rw [if_pos rfl] at hold ⊢
      rw [n2 (fun z => ?_), hold]
      have := blw_le h2 b2 (by omega) 1 0 (by omega) hc' z.2.1
      exact hne ⟨by omega, z.1⟩
    · rw [if_neg h0] at hold ⊢
      obtain ⟨a1, a2⟩ := (h2.2 c' hc').1 (by omega)
      obtain ⟨o1, o2⟩ := new5 (Int.toNat (σM.1 1 c')) e' (by omega) he'
      have hb : e' = e → blw σC c' c = blw σC (Int.toNat (σM.1 1 c')) c := fun hee => by
        unfold blw
        rw [(h2.2 c' hc').2 c (by omega)]
        simp [show ¬ c = c' from fun z => hne ⟨z.symm, hee⟩, show 0 < c' by omega]
      by_cases hq : e' = e ∧ blw σC c' c = true ∧ (σC.1 5 (c' * 8 + e') < 0 ∨ σC.1 3 (Int.toNat (σC.1 5 (c' * 8 + e'))) < c)
      · rw [n1 hq, o1 ⟨hq.1, by rw [← hb hq.1]; exact hq.2.1, by rw [← hold]; exact hq.2.2⟩]
      · rw [n2 hq, o2 (fun z => hq ⟨z.1, by rw [hb z.1]; exact z.2.1, by rw [hold]; exact z.2.2⟩), hold]
  · by_cases hq : e' = e ∧ blw σC c' c = true ∧ (σC.1 5 (c' * 8 + e') < 0 ∨ σC.1 3 (Int.toNat (σC.1 5 (c' * 8 + e'))) < c)
    · rw [n1 hq]; omega
    · rw [n2 hq]; exact p3
  · by_cases hq : e' = e ∧ blw σC c' c = true ∧ (σC.1 5 (c' * 8 + e') < 0 ∨ σC.1 3 (Int.toNat (σC.1 5 (c' * 8 + e'))) < c)
    · have := blw_le h2 b2 (by omega) (c' + 1) c' (by omega) hc' hq.2.1
      rw [n1 hq, z3, z4, if_pos (by omega), if_pos (by omega)]
      have := hq.1
      exact ⟨by omega, by omega, by omega, by omega⟩
    · rw [n2 hq] at h0 ⊢
      obtain ⟨q1, q2, q3, q4⟩ := p4 h0
      rw [z3, z4, if_neg (by omega), if_neg (by omega)]
      exact ⟨by omega, q2, q3, q4⟩
theorem Chg_m {σC σM τ : Mm} {c e c' e' : Int} (ht : ∀ k, k ≠ 5 → τ.1 k = (mth3 σC c e).1 k) : Chg σC (mthZ τ) σM (mthM σM c' e') := by
  have : τ.1 15 8 = σC.1 15 8 := by rw [ht 15 (by decide)]; simp [mth3, stI_1]
  refine ⟨?_, ?_, ?_, ?_, ?_, ?_⟩ <;> simp [mthZ, mthM, stI_1, this]
theorem method_sim {σC σM : Mm} (h : PR σC σM) (x y : Int) : Sim1 (f_X6_method x y σC) (f_X7_method x y σM) σC σM := by
  obtain ⟨h1, h2, h3, h4, -⟩ := id h
  obtain ⟨⟨b1, b2⟩, ⟨b3, b4⟩, -, -, g0, g2, -⟩ := id h1
  unfold f_X6_method f_X7_method
  by_cases hx : x = -1
  · subst hx
    rw [if_pos rfl, if_pos rfl]
    have hM : f_X7_method_27 2000 (-1) y 0 σM = f_X7_method_68 (-1) y σM := by
      rw [f_X7_method_27]
      split
      · rfl
      · rw [if_pos rfl]
    rw [hM]
    unfold f_X6_method_10 f_X6_method_29
    rw [if_neg (by decide)]
    by_cases hm : σC.1 1 1 < 12
    · right
      rw [if_pos hm, if_neg (by decide), e_addS ⟨b3, hm⟩ (by decide), g_68 (by omega), if_neg (by decide), g2]
      exact ⟨_, _, _, rfl, rfl, PR_method h hm (Or.inl ⟨rfl, rfl⟩) (fun z => absurd z (by decide)) (fun _ _ => rfl) (PR4_static h), Chg_m (fun _ _ => rfl)⟩
    · left
      rw [if_neg hm]
      unfold f_X7_method_68
      rw [if_pos (by omega)]
      exact ⟨_, rfl, rfl⟩
  · rw [if_neg hx, if_neg hx]
    unfold f_X6_method_10
    rw [if_pos rfl]
    unfold f_X3_isFreeFor
    rw [e_isClass, bind_s, g_isClass x (by omega), bind_s]
    by_cases hc : 0 ≤ x ∧ x < σC.1 1 0
    · rw [b01_t hc, if_neg (by decide), b01_t (by omega), if_neg (by decide), e_isIn, bind_s, g_in, bind_s]
      by_cases hy : 0 ≤ y ∧ y < 8
      · rw [b01_t hy, if_neg (by decide), b01_t (by omega), if_neg (by decide)]
        obtain ⟨f1, f2⟩ := isFree_aux (σ := σC) (c := x) (e := y) ⟨b3, b4⟩ (Int.toNat (σC.1 1 1)) 2000 0 (by omega) (by omega) (fun m hm => by omega)
        obtain ⟨k1, k2⟩ := gmeth_aux h1 h3 (c := x) (e := y) hx (Int.toNat (σC.1 1 1)) 2000 0 (by omega) (by omega) (fun m hm => by omega)
        rw [show ((0 : Nat) : Int) = 0 from rfl] at f1 f2 k1 k2
        by_cases hh : hasM σC x y
        · left
          rw [f1 hh, k1 hh, bind_s, if_pos rfl]
          exact ⟨_, rfl, rfl⟩
        · rw [f2 hh, k2 hh, bind_s, if_neg (by decide)]
          unfold f_X6_method_29
          by_cases hm : σC.1 1 1 < 12
          · right
            obtain ⟨c, rfl⟩ : ∃ c : Nat, x = c := ⟨Int.toNat x, by omega⟩
            obtain ⟨e, rfl⟩ : ∃ e : Nat, y = e := ⟨Int.toNat y, by omega⟩
            have hH : ∀ low : Nat, (low : Int) < σC.1 1 0 → σC.1 5 (low * 8 + e) < 12 := fun low hl => by
              obtain ⟨-, -, q3, q4⟩ := h4 low e hl (by omega)
              by_cases h0 : 0 ≤ σC.1 5 (low * 8 + e)
              · have := (q4 h0).1; omega
              · omega
            rw [if_pos hm, if_pos rfl, e_addI ⟨b3, hm⟩ b2 hc.2 (by omega) hH, g_68 (by omega), if_pos hc.1, g2]
            exact ⟨_, _, _, rfl, rfl, PR_method h hm (Or.inr ⟨hc.1, hc.2, hy.1, hy.2⟩) (fun _ => hh) (fun k hk => msetP_x hk) (PR4_own h hc.2 (by omega) hh), Chg_m (fun k hk => msetP_x hk)⟩
          · left
            rw [if_neg hm]
            unfold f_X7_method_68
            rw [if_pos (by omega)]
            exact ⟨_, rfl, rfl⟩
      · left
        rw [b01_f hy, if_pos rfl, b01_f (by omega), if_pos rfl, bind_s, if_pos rfl]
        exact ⟨_, rfl, rfl⟩
    · left
      rw [b01_f hc, if_pos rfl, b01_f (by omega), if_pos rfl, bind_s, if_pos rfl]
      exact ⟨_, rfl, rfl⟩
