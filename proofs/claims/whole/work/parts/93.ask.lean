/-! QUESTIONS -/
theorem Inv_keep {σC σC' σM σM' : Mm} (hI : Inv σC σM) (e1 : σC'.1 = σC.1) (e2 : ∀ k, k ≠ 23 → σC'.2 k = σC.2 k) (h : LO σM σM') : Inv σC' σM' := by
  obtain ⟨hP, ⟨a1, a2⟩, ⟨b1, b2⟩, hr, hf, hn⟩ := hI
  have m : ∀ j, j ≠ 34 → j ≠ 35 → j ≠ 36 → σM'.1 0 j = σM.1 0 j := fun j q1 q2 q3 => h.1 0 j (by omega)
  refine ⟨PR_gen hP (fun k _ _ => by rw [e1]) (LO_MG h), ?_, ?_, ?_, fun z => ?_, fun z => ?_⟩
  · rw [e1, m 16 (by omega) (by omega) (by omega)]; exact ⟨a1, a2⟩
  · rw [e1, m 37 (by omega) (by omega) (by omega)]; exact ⟨b1, b2⟩
  · rw [e1, m 21 (by omega) (by omega) (by omega)]; exact hr
  · rw [m 16 (by omega) (by omega) (by omega)] at z
    exact FDn_gen (hf z) ⟨fun k _ _ => by rw [e1], fun k _ _ q => e2 k q, by rw [e1]⟩ (LO_MG h) (m 20 (by omega) (by omega) (by omega))
  · rw [m 37 (by omega) (by omega) (by omega)] at z
    rw [m 16 (by omega) (by omega) (by omega)]
    exact ⟨(hn z).1, RN_gen (hn z).2 (by rw [e1]) (by rw [e1]) (by rw [e1]) (fun k _ _ => by rw [e1]) (fun k q1 q2 => LO_row h (by omega)) (fun j q1 q2 => m j (by omega) (by omega) (by omega))⟩
theorem Inv_LO {σC σM σM' : Mm} (hI : Inv σC σM) (h : LO σM σM') : Inv σC σM' := Inv_keep hI rfl (fun _ _ => rfl) h
theorem sh_first {a b : Int} (ha : -1 ≤ a ∧ a ≤ 189) (hb : -1 ≤ b ∧ b ≤ 189) : iShr ((a + 1) * 256 + (b + 1)) 8 = a + 1 := by
  have := shr8 (a := Int.toNat ((a + 1) * 256 + (b + 1))) (by omega)
  rw [show ((Int.toNat ((a + 1) * 256 + (b + 1)) : Nat) : Int) = (a + 1) * 256 + (b + 1) by omega] at this
  omega
theorem nI_and (a b : Nat) : nI a &&& nI b = nI (a &&& b) := by
  apply Int32.toBitVec.inj
  apply BitVec.eq_of_toNat_eq
  rw [Int32.toBitVec_and, BitVec.toNat_and]
  show (BitVec.ofNat 32 a).toNat &&& (BitVec.ofNat 32 b).toNat = (BitVec.ofNat 32 (a &&& b)).toNat
  rw [BitVec.toNat_ofNat, BitVec.toNat_ofNat, BitVec.toNat_ofNat, Nat.and_mod_two_pow]
theorem sh_second {a b : Int} (ha : -1 ≤ a ∧ a ≤ 189) (hb : -1 ≤ b ∧ b ≤ 189) : iAnd ((a + 1) * 256 + (b + 1)) 255 = b + 1 := by
  obtain ⟨w, hw⟩ : ∃ w : Nat, (a + 1) * 256 + (b + 1) = (w : Int) := ⟨Int.toNat ((a + 1) * 256 + (b + 1)), by omega⟩
  have e : w &&& 255 = w % 256 := Nat.and_two_pow_sub_one_eq_mod w 8
  unfold iAnd
  rw [hw, show (255 : Int) = ((255 : Nat) : Int) from rfl, oi_nI, oi_nI, nI_and, e, nI_toInt (by omega)]
  omega
/-- what the questions need of what was found -/
theorem FD_low {σC σM : Mm} (hf : FDn σC σM) : σC.1 24 2 = σM.1 0 24 ∧ σC.1 24 3 = σM.1 0 29 ∧ (0 ≤ σM.1 0 24 ∧ σM.1 0 24 ≤ 80) ∧ (0 ≤ σM.1 0 29 ∧ σM.1 0 29 ≤ 60) := ⟨hf.1.1.2.1.1.1, hf.1.1.2.1.1.2.1, hf.1.1.2.1.2.1, hf.1.1.2.1.2.2.1⟩
theorem b01_ne {P : Prop} [Decidable P] : (if b01 P = 0 then some (0 : Int) else some 1) = some (b01 P) := by
  by_cases h : P
  · rw [b01_t h]; rfl
  · rw [b01_f h]; rfl
theorem FD_once {σC σM : Mm} (hf : FDn σC σM) {t : Nat} (ht : (t : Int) < σM.1 0 24) : ∃ τ' v, f_X7_isOnce t σM = some (v, τ') ∧ LO σM τ' ∧ (v = 0 ∨ v = 1) ∧ σC.1 22 t = v := by
  obtain ⟨K, hK⟩ : ∃ K : Nat, σM.1 0 24 = K := ⟨Int.toNat (σM.1 0 24), by omega⟩
  obtain ⟨τ', h1, h2⟩ := g_isOnce (Or.inl rfl) hf.1.1 hf.1.2.2.2.2.1 hK (t := t) (by omega)
  exact ⟨τ', _, h1, h2, b01_z, (hf.2.2.1 K hK t (by omega)).2⟩
theorem FD_led {σC σM : Mm} (hf : FDn σC σM) {t : Nat} (ht : (t : Int) < σM.1 0 24) : ∃ τ', f_X7_ledBy t σM = some (σC.1 20 t, τ') ∧ LO σM τ' := by
  obtain ⟨K, hK⟩ : ∃ K : Nat, σM.1 0 24 = K := ⟨Int.toNat (σM.1 0 24), by omega⟩
  obtain ⟨τ', h1, h2, -⟩ := g_ledBy (Or.inl rfl) hf.1.1 hK (t := t) (by omega)
  exact ⟨τ', by rw [h1]; rw [(hf.2.2.1 K hK t (by omega)).1], h2⟩
theorem st_name : St_name Inv := by
  intro x1 x2 σC σM _ _ _ _ hI
  obtain ⟨hP, ⟨a1, a2⟩, -, -, hf, -⟩ := id hI
  unfold f_X6_name f_X7_name
  rw [e_isIn, g_in, bind_s, bind_s]
  by_cases h2 : 0 ≤ x2 ∧ x2 ≤ 4
  rotate_left
  · rw [b01_f (show ¬ (0 ≤ x2 ∧ x2 < 5) by omega), b01_f h2, if_pos rfl, if_pos rfl]; exact ⟨_, σM, rfl, rfl, hI⟩
  rw [b01_t (show 0 ≤ x2 ∧ x2 < 5 by omega), b01_t h2, if_neg (show ¬ (1 : Int) = 0 by omega), if_neg (show ¬ (1 : Int) = 0 by omega)]
  by_cases h0 : σM.1 0 16 = 0
  · rw [if_pos (a1.trans h0), if_pos h0]; exact ⟨_, σM, rfl, rfl, hI⟩
  have hF := hf (by omega)
  obtain ⟨l1, l2, l3, l4⟩ := FD_low hF
  rw [if_neg (show ¬ σC.1 0 5 = 0 by omega), if_neg h0, ck_pos (show inR (σM.1 0 29 - 1) by omega), e_isIn, g_in, bind_s, bind_s, l2]
  by_cases h1 : 0 ≤ x1 ∧ x1 < σM.1 0 29
  rotate_left
  · rw [b01_f h1, b01_f (show ¬ (0 ≤ x1 ∧ x1 ≤ σM.1 0 29 - 1) by omega), if_pos rfl, if_pos rfl]; exact ⟨_, σM, rfl, rfl, hI⟩
  rw [b01_t h1, b01_t (show 0 ≤ x1 ∧ x1 ≤ σM.1 0 29 - 1 by omega), if_neg (show ¬ (1 : Int) = 0 by omega), if_neg (show ¬ (1 : Int) = 0 by omega)]
  obtain ⟨x, rfl⟩ : ∃ x : Nat, x1 = x := ⟨Int.toNat x1, by omega⟩
  obtain ⟨⟨z1, z2⟩, z3, z4, z5, z6⟩ := hF.1.1.2.2.2.1 x h1.2
  have h12 := hP.1.2.2.1
  have hs : ((xst σM x : Nat) : Int) < σC.1 1 2 := by unfold xst; omega
  have hx17 : σM.1 17 x = (xst σM x : Nat) := by unfold xst; omega
  obtain ⟨⟨-, -, p3, -, p5, -, -⟩, -⟩ := hP.2.2.2.2.2.1 (xst σM x) hs
  have e27 : σC.1 27 x = (xst σM x : Nat) := by rw [← hx17]; exact z1
  have e28 : σC.1 28 x = σM.1 18 x := z2
  simp only [ck_pos (show (0 : Int) ≤ (x : Int) ∧ (x : Int) < ((60 : Nat) : Int) by omega), Int.toNat_natCast, e27, e28, hx17]
  by_cases q0 : x2 = 0
  · rw [if_pos q0, if_pos q0]; exact ⟨_, σM, rfl, rfl, hI⟩
  rw [if_neg q0, if_neg q0]
  by_cases q1 : x2 = 1
  · rw [if_pos q1, if_pos q1, ck_pos (show (0 : Int) ≤ ((xst σM x : Nat) : Int) ∧ ((xst σM x : Nat) : Int) < ((90 : Nat) : Int) by omega), ck_pos (show (0 : Int) ≤ ((xst σM x : Nat) : Int) ∧ ((xst σM x : Nat) : Int) < ((90 : Nat) : Int) by omega), p5]; exact ⟨_, σM, rfl, rfl, hI⟩
  rw [if_neg q1, if_neg q1]
  by_cases q2 : x2 = 2
  · rw [if_pos q2, if_pos q2, ck_pos (show (0 : Int) ≤ ((xst σM x : Nat) : Int) ∧ ((xst σM x : Nat) : Int) < ((90 : Nat) : Int) by omega), g_isRow hF.1.1 (x := x) h1.2, bind_s]
    by_cases hr : σC.1 8 (xst σM x) = 1
    · rw [if_pos hr, b01_t hr, if_neg (by omega)]; exact ⟨_, σM, rfl, rfl, hI⟩
    · rw [if_neg hr, b01_f hr, if_pos rfl]; exact ⟨_, σM, rfl, rfl, hI⟩
  rw [if_neg q2, if_neg q2]
  by_cases q3 : x2 = 3
  · rw [if_pos q3, if_pos q3]; exact ⟨_, σM, rfl, rfl, hI⟩
  rw [if_neg q3, if_neg q3]
  obtain ⟨t, ht⟩ : ∃ t : Nat, σM.1 18 x = t := ⟨Int.toNat (σM.1 18 x), by omega⟩
  obtain ⟨τ', v, w1, w2, w3, w4⟩ := FD_once hF (t := t) (by omega)
  rw [ht, w1, bind_s, ck_pos (show (0 : Int) ≤ (t : Int) ∧ (t : Int) < ((80 : Nat) : Int) by omega), Int.toNat_natCast, w4]
  rcases w3 with rfl | rfl
  · exact ⟨0, τ', rfl, rfl, Inv_LO hI w2⟩
  · exact ⟨1, τ', rfl, rfl, Inv_LO hI w2⟩
theorem st_node : St_node Inv := by
  intro x1 x2 σC σM _ _ _ _ hI
  obtain ⟨hP, ⟨a1, a2⟩, -, -, hf, -⟩ := id hI
  unfold f_X6_node f_X7_node
  rw [e_isIn, g_in, bind_s, bind_s]
  by_cases h2 : 0 ≤ x2 ∧ x2 ≤ 4
  rotate_left
  · rw [b01_f (show ¬ (0 ≤ x2 ∧ x2 < 5) by omega), b01_f h2, if_pos rfl, if_pos rfl]; exact ⟨_, σM, rfl, rfl, hI⟩
  rw [b01_t (show 0 ≤ x2 ∧ x2 < 5 by omega), b01_t h2, if_neg (show ¬ (1 : Int) = 0 by omega), if_neg (show ¬ (1 : Int) = 0 by omega)]
  by_cases h0 : σM.1 0 16 = 0
  · rw [if_pos (a1.trans h0), if_pos h0]; exact ⟨_, σM, rfl, rfl, hI⟩
  have hF := hf (by omega)
  obtain ⟨l1, l2, l3, l4⟩ := FD_low hF
  rw [if_neg (show ¬ σC.1 0 5 = 0 by omega), if_neg h0, ck_pos (show inR (σM.1 0 24 - 1) by omega), e_isIn, g_in, bind_s, bind_s, l1]
  by_cases h1 : 0 ≤ x1 ∧ x1 < σM.1 0 24
  rotate_left
  · rw [b01_f h1, b01_f (show ¬ (0 ≤ x1 ∧ x1 ≤ σM.1 0 24 - 1) by omega), if_pos rfl, if_pos rfl]; exact ⟨_, σM, rfl, rfl, hI⟩
  rw [b01_t h1, b01_t (show 0 ≤ x1 ∧ x1 ≤ σM.1 0 24 - 1 by omega), if_neg (show ¬ (1 : Int) = 0 by omega), if_neg (show ¬ (1 : Int) = 0 by omega)]
  obtain ⟨n, rfl⟩ : ∃ n : Nat, x1 = n := ⟨Int.toNat x1, by omega⟩
  obtain ⟨⟨z1, z2⟩, z3, z4, z5, -⟩ := hF.1.1.2.2.1 n h1.2
  have e25 : σC.1 25 n = σM.1 13 n := z1
  have e26 : σC.1 (15 + 11) n = (σM.1 14 n + 1) * 256 + (σM.1 15 n + 1) := z2
  have hn80 : (0 : Int) ≤ (n : Int) ∧ (n : Int) < ((80 : Nat) : Int) := by omega
  have v1 : f_X5_firstNumber 15 n σC = some (if 0 ≤ σM.1 14 n then σM.1 14 n else -9) := by
    unfold f_X5_firstNumber
    rw [ck_pos hn80, Int.toNat_natCast, e26, sh_first z4 z5]
    by_cases q : σM.1 14 n + 1 = 0
    · rw [if_pos q, if_neg (by omega)]
    · rw [if_neg q, ck_pos (by omega), if_pos (by omega)]; congr 1; omega
  have v2 : f_X5_secondNumber 15 n σC = some (if 0 ≤ σM.1 15 n then σM.1 15 n else -9) := by
    unfold f_X5_secondNumber
    rw [ck_pos hn80, Int.toNat_natCast, e26, sh_second z4 z5]
    by_cases q : σM.1 15 n + 1 = 0
    · rw [if_pos q, if_neg (by omega)]
    · rw [if_neg q, ck_pos (by omega), if_pos (by omega)]; congr 1; omega
  rw [v1, v2]
  simp only [ck_pos hn80, Int.toNat_natCast, e25]
  by_cases q0 : x2 = 0
  · rw [if_pos q0, if_pos q0]; exact ⟨_, σM, rfl, rfl, hI⟩
  rw [if_neg q0, if_neg q0]
  by_cases q1 : x2 = 1
  · rw [if_pos q1, if_pos q1, bind_s]
    by_cases q : 0 ≤ σM.1 14 n
    · rw [if_pos q, if_pos q]; exact ⟨_, σM, rfl, rfl, hI⟩
    · rw [if_neg q, if_neg q]; exact ⟨_, σM, rfl, rfl, hI⟩
  rw [if_neg q1, if_neg q1]
  by_cases q2 : x2 = 2
  · rw [if_pos q2, if_pos q2, bind_s]
    by_cases q : 0 ≤ σM.1 15 n
    · rw [if_pos q, if_pos q]; exact ⟨_, σM, rfl, rfl, hI⟩
    · rw [if_neg q, if_neg q]; exact ⟨_, σM, rfl, rfl, hI⟩
  rw [if_neg q2, if_neg q2]
  by_cases q3 : x2 = 3
  · obtain ⟨τ', v, w1, w2, w3, w4⟩ := FD_once hF (t := n) h1.2
    rw [if_pos q3, if_pos q3, w1, bind_s]
    rcases w3 with rfl | rfl
    · exact ⟨0, τ', if_pos w4, rfl, Inv_LO hI w2⟩
    · exact ⟨1, τ', if_neg (by omega), rfl, Inv_LO hI w2⟩
  obtain ⟨τ', w1, w2⟩ := FD_led hF (t := n) h1.2
  rw [if_neg q3, if_neg q3, w1, bind_s]
  exact ⟨_, τ', rfl, rfl, Inv_LO hI w2⟩
theorem st_held : St_held Inv := by
  intro x1 x2 σC σM _ _ _ _ hI
  obtain ⟨hP, ⟨a1, a2⟩, -, -, hf, -⟩ := id hI
  unfold f_X6_held f_X7_held
  rw [e_isIn, g_in, bind_s, bind_s]
  by_cases h2 : 0 ≤ x2 ∧ x2 ≤ 7
  rotate_left
  · rw [b01_f (show ¬ (0 ≤ x2 ∧ x2 < 8) by omega), b01_f h2, if_pos rfl, if_pos rfl]; exact ⟨_, rfl, rfl, hI⟩
  rw [b01_t (show 0 ≤ x2 ∧ x2 < 8 by omega), b01_t h2, if_neg (show ¬ (1 : Int) = 0 by omega), if_neg (show ¬ (1 : Int) = 0 by omega)]
  by_cases h0 : σM.1 0 16 = 0
  · rw [if_pos (a1.trans h0), if_pos h0]; exact ⟨_, rfl, rfl, hI⟩
  have hF := hf (by omega)
  obtain ⟨l1, l2, l3, l4⟩ := FD_low hF
  rw [if_neg (show ¬ σC.1 0 5 = 0 by omega), if_neg h0, ck_pos (show inR (σM.1 0 24 - 1) by omega), e_isIn, g_in, bind_s, bind_s, l1]
  by_cases h1 : 0 ≤ x1 ∧ x1 < σM.1 0 24
  rotate_left
  · rw [b01_f h1, b01_f (show ¬ (0 ≤ x1 ∧ x1 ≤ σM.1 0 24 - 1) by omega), if_pos rfl, if_pos rfl]; exact ⟨_, rfl, rfl, hI⟩
  rw [b01_t h1, b01_t (show 0 ≤ x1 ∧ x1 ≤ σM.1 0 24 - 1 by omega), if_neg (show ¬ (1 : Int) = 0 by omega), if_neg (show ¬ (1 : Int) = 0 by omega)]
  obtain ⟨n, rfl⟩ : ∃ n : Nat, x1 = n := ⟨Int.toNat x1, by omega⟩
  obtain ⟨v, rfl⟩ : ∃ v : Nat, x2 = v := ⟨Int.toNat x2, by omega⟩
  rw [e_setOf (by omega) (by omega), bind_s, ck_pos (by omega), show Int.toNat (8 * (n : Int) + v) = 8 * n + v by omega]
  exact ⟨_, congrArg some (hF.1.1.2.2.2.2.1 n v h1.2 (by omega)).1, rfl, hI⟩
theorem st_inside : St_inside Inv := by
  intro x1 x2 σC σM _ _ _ _ hI
  obtain ⟨hP, ⟨a1, a2⟩, -, -, hf, -⟩ := id hI
  unfold f_X6_inside f_X7_inside
  rw [e_isIn, g_in, bind_s, bind_s]
  by_cases h2 : 0 ≤ x2 ∧ x2 ≤ 4
  rotate_left
  · rw [b01_f (show ¬ (0 ≤ x2 ∧ x2 < 5) by omega), b01_f h2, if_pos rfl, if_pos rfl]; exact ⟨_, rfl, rfl, hI⟩
  rw [b01_t (show 0 ≤ x2 ∧ x2 < 5 by omega), b01_t h2, if_neg (show ¬ (1 : Int) = 0 by omega), if_neg (show ¬ (1 : Int) = 0 by omega)]
  by_cases h0 : σM.1 0 16 = 0
  · rw [if_pos (a1.trans h0), if_pos h0]; exact ⟨_, rfl, rfl, hI⟩
  have hF := hf (by omega)
  obtain ⟨l1, l2, l3, l4⟩ := FD_low hF
  rw [if_neg (show ¬ σC.1 0 5 = 0 by omega), if_neg h0, ck_pos (show inR (σM.1 0 29 - 1) by omega), e_isIn, g_in, bind_s, bind_s, l2]
  by_cases h1 : 0 ≤ x1 ∧ x1 < σM.1 0 29
  rotate_left
  · rw [b01_f h1, b01_f (show ¬ (0 ≤ x1 ∧ x1 ≤ σM.1 0 29 - 1) by omega), if_pos rfl, if_pos rfl]; exact ⟨_, rfl, rfl, hI⟩
  rw [b01_t h1, b01_t (show 0 ≤ x1 ∧ x1 ≤ σM.1 0 29 - 1 by omega), if_neg (show ¬ (1 : Int) = 0 by omega), if_neg (show ¬ (1 : Int) = 0 by omega)]
  obtain ⟨n, rfl⟩ : ∃ n : Nat, x1 = n := ⟨Int.toNat x1, by omega⟩
  obtain ⟨v, rfl⟩ : ∃ v : Nat, x2 = v := ⟨Int.toNat x2, by omega⟩
  rw [e_insideOf (by omega) (by omega), bind_s, ck_pos (by omega), show Int.toNat (5 * (n : Int) + v) = 5 * n + v by omega]
  exact ⟨_, congrArg some (hF.1.1.2.2.2.2.2.1 n v h1.2 (by omega)).1, rfl, hI⟩
theorem st_global : St_global Inv := by
  intro x1 σC σM _ _ _ hI
  obtain ⟨hP, ⟨a1, a2⟩, -, -, hf, -⟩ := id hI
  unfold f_X6_global f_X7_global
  rw [e_isIn, g_in, bind_s, bind_s]
  by_cases h2 : 0 ≤ x1 ∧ x1 ≤ 3
  rotate_left
  · rw [b01_f (show ¬ (0 ≤ x1 ∧ x1 < 4) by omega), b01_f h2, if_pos rfl, if_pos rfl]; exact ⟨_, rfl, rfl, hI⟩
  rw [b01_t (show 0 ≤ x1 ∧ x1 < 4 by omega), b01_t h2, if_neg (show ¬ (1 : Int) = 0 by omega), if_neg (show ¬ (1 : Int) = 0 by omega)]
  by_cases h0 : σM.1 0 16 = 0
  · rw [if_pos (a1.trans h0), if_pos h0]; exact ⟨_, rfl, rfl, hI⟩
  have hF := hf (by omega)
  rw [if_neg (show ¬ σC.1 0 5 = 0 by omega), if_neg h0, ck_pos (by omega), ck_pos (by omega)]
  exact ⟨_, congrArg some (hF.1.1.2.2.2.2.2.2.1 (Int.toNat x1) (by omega)).1, rfl, hI⟩
theorem st_count : St_count Inv := by
  intro x1 σC σM _ _ _ hI
  obtain ⟨hP, ⟨a1, a2⟩, -, hr, hf, -⟩ := id hI
  obtain ⟨-, -, -, -, p0, p2, p7, -⟩ := hP.1
  have e : f_X6_count x1 σC = f_X7_count x1 σM := by
    unfold f_X6_count f_X7_count
    rw [p0, p2, p7, a1, hr]
    by_cases h0 : σM.1 0 16 = 0
    · simp only [if_pos h0]
    · obtain ⟨l1, l2, -, -⟩ := FD_low (hf (by omega))
      rw [l1, l2]
  have e2 : ∃ r, f_X7_count x1 σM = some r := by
    unfold f_X7_count
    repeat' split
    all_goals exact ⟨_, rfl⟩
  obtain ⟨r, hr2⟩ := e2
  exact ⟨r, e.trans hr2, hr2, hI⟩
/-! leads -/
theorem lead_loop {σC σ' τ : Mm} (h : RF 15 σC τ) {n s K : Nat} (hK : τ.1 0 24 = K) (hn : n < K) (hs : (s : Int) < σC.1 1 2) (hk : σC.1 8 s = 9 ∨ σC.1 8 s = 10) (h2 : σ'.1 24 2 = K) (hr : ∀ u, u < K → rB 15 σ' u = LedB σC τ n s u) {x3 : Int} (h3 : ¬ x3 < 0) : ∀ (k f t : Nat) (c : Int) (τ1 : Mm), t + k = K → k < f → LO τ τ1 → 0 ≤ c ∧ c ≤ 2147483647 → ∃ r τ', f_X0_reachedAt_19 15 f c t σ' = some (r, σ') ∧ f_X7_leads_85 f n s x3 c t τ1 = some (r, τ') ∧ LO τ τ' := by
  have hK80 := h.2.1.2.1
  intro k
  induction k with
  | zero =>
    intro f t c τ1 ht hf hL hc
    obtain ⟨f, rfl⟩ : ∃ g, f = g + 1 := ⟨f - 1, by omega⟩
    have e := hL.1 0 24 (by omega)
    rw [f_X0_reachedAt_19, f_X7_leads_85, if_pos (show σ'.1 (15 + 9) 2 ≤ (t : Int) by rw [h2]; omega), if_pos (show τ1.1 0 24 ≤ (t : Int) by omega)]
    exact ⟨_, τ1, rfl, rfl, hL⟩
  | succ k ih =>
    intro f t c τ1 ht hf hL hc
    obtain ⟨f, rfl⟩ : ∃ g, f = g + 1 := ⟨f - 1, by omega⟩
    have e := hL.1 0 24 (by omega)
    obtain ⟨τ2, w1, w2, -⟩ := g_isLed (Or.inl rfl) (RF_LO (Or.inl rfl) h hL) (n := n) (s := s) (t := t) (by omega) (by omega) hs hk
    rw [f_X0_reachedAt_19, f_X7_leads_85, if_neg (show ¬ σ'.1 (15 + 9) 2 ≤ (t : Int) by rw [h2]; omega), if_neg (show ¬ τ1.1 0 24 ≤ (t : Int) by omega), if_neg h3, e_isReached (by omega), w1, bind_s, bind_s, hr t (by omega), LedB_LO hL]
    have cc : (t : Int) + 1 = ((t + 1 : Nat) : Int) := by omega
    by_cases hb : LedB σC τ n s t = true
    · rw [b01_t hb, if_neg (show ¬ (1 : Int) = 0 by omega), if_neg (show ¬ (1 : Int) = 0 by omega)]
      by_cases h0 : c = 0
      · rw [if_pos h0, if_pos h0]; exact ⟨_, τ2, rfl, rfl, hL.tr w2⟩
      · rw [if_neg h0, if_neg h0, ck_pos (show inR (c + (-1)) by omega), ck_pos (show inR ((t : Int) + 1) by omega), ck_pos (show inR (c + (-1)) by omega), ck_pos (show inR ((t : Int) + 1) by omega), cc]
        exact ih f (t + 1) (c + (-1)) τ2 (by omega) (by omega) (hL.tr w2) (by omega)
    · rw [b01_f hb, if_pos rfl, if_pos rfl, ck_pos (show inR ((t : Int) + 1) by omega), ck_pos (show inR ((t : Int) + 1) by omega), cc]
      exact ih f (t + 1) c τ2 (by omega) (by omega) (hL.tr w2) hc
theorem st_leads : St_leads Inv := by
  intro x1 x2 x3 σC σM _ _ hx3 _ _ hI
  obtain ⟨hP, ⟨a1, a2⟩, -, -, hf, -⟩ := id hI
  have h12 := hP.1.2.2.1
  have e7 := hP.1.2.2.2.2.2.2.1
  unfold f_X6_leads f_X7_leads
  rw [e_isLeading x2 (by omega), ck_pos (show inR (σM.1 0 7 - 1) by omega), g_in, bind_s, bind_s, e7]
  by_cases h2 : 0 ≤ x2 ∧ x2 < σC.1 1 2
  rotate_left
  · rw [b01_f (show ¬ (0 ≤ x2 ∧ x2 < σC.1 1 2 ∧ (σC.1 8 (Int.toNat x2) = 9 ∨ σC.1 8 (Int.toNat x2) = 10)) from fun z => h2 ⟨z.1, z.2.1⟩), b01_f (show ¬ (0 ≤ x2 ∧ x2 ≤ σC.1 1 2 - 1) by omega), if_pos rfl, if_pos rfl]
    exact ⟨_, σC, σM, rfl, rfl, hI⟩
  rw [b01_t (show 0 ≤ x2 ∧ x2 ≤ σC.1 1 2 - 1 by omega), if_neg (show ¬ (1 : Int) = 0 by omega)]
  obtain ⟨s, rfl⟩ : ∃ s : Nat, x2 = s := ⟨Int.toNat x2, by omega⟩
  obtain ⟨⟨p6, -, p8, -⟩, -⟩ := hP.2.2.2.2.2.1 s h2.2
  simp only [ck_pos (show (0 : Int) ≤ (s : Int) ∧ (s : Int) < ((90 : Nat) : Int) by omega), Int.toNat_natCast, p8]
  by_cases hk : σC.1 8 s = 9 ∨ σC.1 8 s = 10
  rotate_left
  · rw [b01_f (show ¬ (0 ≤ (s : Int) ∧ (s : Int) < σC.1 1 2 ∧ (σC.1 8 s = 9 ∨ σC.1 8 s = 10)) from fun z => hk z.2.2), if_pos rfl, if_neg (by omega), if_neg (by omega)]
    exact ⟨_, σC, σM, rfl, rfl, hI⟩
  have hm : (if σC.1 8 s = 9 then f_X7_leads_38 x1 s x3 σM else (if σC.1 8 s = 10 then f_X7_leads_38 x1 s x3 σM else some ((-1), σM))) = f_X7_leads_38 x1 s x3 σM := by
    rcases hk with hk | hk
    · rw [if_pos hk]
    · rw [if_neg (by omega), if_pos hk]
  rw [b01_t (show 0 ≤ (s : Int) ∧ (s : Int) < σC.1 1 2 ∧ (σC.1 8 s = 9 ∨ σC.1 8 s = 10) from ⟨by omega, h2.2, hk⟩), if_neg (show ¬ (1 : Int) = 0 by omega), hm]
  unfold f_X7_leads_38
  by_cases h0 : σM.1 0 16 = 0
  · rw [if_pos (a1.trans h0), if_pos h0]; exact ⟨_, σC, σM, rfl, rfl, hI⟩
  have hF := hf (by omega)
  obtain ⟨l1, l2, l3, l4⟩ := FD_low hF
  rw [if_neg (show ¬ σC.1 0 5 = 0 by omega), if_neg h0, ck_pos (show inR (σM.1 0 24 - 1) by omega), e_isIn, g_in, bind_s, bind_s, l1]
  by_cases h1 : 0 ≤ x1 ∧ x1 < σM.1 0 24
  rotate_left
  · rw [b01_f h1, b01_f (show ¬ (0 ≤ x1 ∧ x1 ≤ σM.1 0 24 - 1) by omega), if_pos rfl, if_pos rfl]; exact ⟨_, σC, σM, rfl, rfl, hI⟩
  rw [b01_t h1, b01_t (show 0 ≤ x1 ∧ x1 ≤ σM.1 0 24 - 1 by omega), if_neg (show ¬ (1 : Int) = 0 by omega), if_neg (show ¬ (1 : Int) = 0 by omega)]
  obtain ⟨n, rfl⟩ : ∃ n : Nat, x1 = n := ⟨Int.toNat x1, by omega⟩
  have e25 : σC.1 25 n = σM.1 13 n := (hF.1.1.2.2.1 n h1.2).1.1
  simp only [ck_pos (show (0 : Int) ≤ (s : Int) ∧ (s : Int) < ((90 : Nat) : Int) by omega), ck_pos (show (0 : Int) ≤ (n : Int) ∧ (n : Int) < ((80 : Nat) : Int) by omega), Int.toNat_natCast, p6, e25]
  by_cases how : σC.1 13 s = σM.1 13 n
  rotate_left
  · rw [if_neg how, if_neg how]; exact ⟨_, σC, σM, rfl, rfl, hI⟩
  rw [if_pos how, if_pos how]
  unfold f_X0_reachedAt
  by_cases h3 : 0 ≤ x3
  rotate_left
  · rw [if_neg h3, f_X7_leads_85, if_neg (show ¬ σM.1 0 24 ≤ 0 by omega), if_pos (show x3 < 0 by omega)]
    exact ⟨_, σC, σM, rfl, rfl, hI⟩
  obtain ⟨σ', w1, w2, w3, w4⟩ := e_reach (Or.inl rfl) hF.1.1 (n := n) (s := s) h1.2 h2.2 hk
  obtain ⟨K, hK⟩ : ∃ K : Nat, σM.1 0 24 = K := ⟨Int.toNat (σM.1 0 24), by omega⟩
  obtain ⟨r, τ', v1, v2, v3⟩ := lead_loop hF.1.1 hK (by omega) h2.2 hk (σ' := σ') (by rw [w3, l1, hK]) (fun u hu => w4 u (by omega)) (x3 := x3) (by omega) K 2000 0 x3 σM (by omega) (by omega) LO.rf (by omega)
  rw [if_pos h3, w1, bind_s]
  refine ⟨r, σ', τ', ?_, v2, Inv_keep hI w3 (fun k hk => w2.2 k hk) v3⟩
  rw [show (0 : Int) = ((0 : Nat) : Int) from rfl, v1, bind_s]
/-! many, ran, object -/
theorem many_loop {σC σM : Mm} (h : RN σC σM) (x1 : Int) : ∀ (k f x : Nat) (c : Int), (x : Int) + k = σM.1 0 46 → k < f → 0 ≤ c ∧ c ≤ x → ∃ r, f_X2_countOf_4 f x1 c x σC = some r ∧ f_X7_many_40 f x1 c x σM = some r := by
  obtain ⟨h1, h2⟩ := h
  obtain ⟨t1, t2, t3⟩ := h1.1
  intro k
  induction k with
  | zero =>
    intro f x c hx hf hc
    obtain ⟨f, rfl⟩ : ∃ g, f = g + 1 := ⟨f - 1, by omega⟩
    rw [f_X2_countOf_4, f_X7_many_40, if_pos (by omega), if_pos (by omega)]
    exact ⟨_, rfl, rfl⟩
  | succ k ih =>
    intro f x c hx hf hc
    obtain ⟨f, rfl⟩ : ∃ g, f = g + 1 := ⟨f - 1, by omega⟩
    have cc : (x : Int) + 1 = ((x + 1 : Nat) : Int) := by omega
    rw [f_X2_countOf_4, f_X7_many_40, if_neg (show ¬ σC.1 50 1 ≤ (x : Int) by omega), if_neg (show ¬ σM.1 0 46 ≤ (x : Int) by omega), Int.toNat_natCast, (h2 x (by omega)).1.2.1]
    rw [ck_pos (show (0 : Int) ≤ (x : Int) ∧ (x : Int) < ((300 : Nat) : Int) by omega), ck_pos (show (0 : Int) ≤ (x : Int) ∧ (x : Int) < ((300 : Nat) : Int) by omega)]
    by_cases hq : σM.1 22 x = x1
    · obtain ⟨r, v1, v2⟩ := ih f (x + 1) (c + 1) (by omega) (by omega) (by omega)
      rw [← cc] at v1 v2
      rw [if_pos hq, if_pos hq, ck_pos (show inR (c + 1) by omega), ck_pos (show inR ((x : Int) + 1) by omega), ck_pos (show inR (c + 1) by omega), ck_pos (show inR ((x : Int) + 1) by omega), v1, v2]
      exact ⟨r, rfl, rfl⟩
    · obtain ⟨r, v1, v2⟩ := ih f (x + 1) c (by omega) (by omega) (by omega)
      rw [← cc] at v1 v2
      rw [if_neg hq, if_neg hq, ck_pos (show inR (c + 0) by omega), ck_pos (show inR ((x : Int) + 1) by omega), ck_pos (show inR ((x : Int) + 1) by omega), Int.add_zero, v1, v2]
      exact ⟨r, rfl, rfl⟩
theorem st_many : St_many Inv := by
  intro x1 σC σM _ _ _ hI
  obtain ⟨hP, ⟨a1, a2⟩, ⟨b1, b2⟩, -, hf, hn⟩ := id hI
  unfold f_X6_many f_X7_many
  by_cases h0 : σM.1 0 16 = 0
  · rw [if_pos (a1.trans h0), if_pos h0]; exact ⟨_, rfl, rfl, hI⟩
  have hF := hf (by omega)
  obtain ⟨l1, l2, l3, l4⟩ := FD_low hF
  rw [if_neg (show ¬ σC.1 0 5 = 0 by omega), if_neg h0, ck_pos (show inR (σM.1 0 29 - 1) by omega), e_isIn, g_in, bind_s, bind_s, l2]
  by_cases h1 : 0 ≤ x1 ∧ x1 < σM.1 0 29
  rotate_left
  · rw [b01_f h1, b01_f (show ¬ (0 ≤ x1 ∧ x1 ≤ σM.1 0 29 - 1) by omega), if_pos rfl, if_pos rfl]; exact ⟨_, rfl, rfl, hI⟩
  rw [b01_t h1, b01_t (show 0 ≤ x1 ∧ x1 ≤ σM.1 0 29 - 1 by omega), if_neg (show ¬ (1 : Int) = 0 by omega), if_neg (show ¬ (1 : Int) = 0 by omega)]
  by_cases h3 : σM.1 0 37 = 0
  · rw [if_pos (b1.trans h3), if_pos h3]; exact ⟨_, rfl, rfl, hI⟩
  have hR := (hn (by omega)).2
  have t := hR.1.1
  obtain ⟨r, v1, v2⟩ := many_loop hR x1 (Int.toNat (σM.1 0 46)) 2000 0 0 (by omega) (by omega) (by omega)
  rw [if_neg (show ¬ σC.1 0 6 = 0 by omega), if_neg h3]
  refine ⟨r, ?_, v2, hI⟩
  unfold f_X2_countOf
  rw [show f_X2_countOf_4 2000 x1 0 0 σC = some r from v1, bind_s]
theorem g_or {n c m : Int} (h : thg n c m) (σ : Mm) : f_X7_or m σ = some c := by
  obtain ⟨⟨h1, h2⟩, h3⟩ := h
  unfold f_X7_or
  by_cases hm : m < 0
  · rw [if_neg (by omega), h3, if_pos hm]
  · rw [if_pos (by omega), h3, if_neg hm]
theorem st_ran : St_ran Inv := by
  intro x1 σC σM _ _ _ hI
  obtain ⟨hP, -, ⟨b1, b2⟩, -, -, hn⟩ := id hI
  unfold f_X6_ran f_X7_ran
  rw [e_isIn, g_in, bind_s, bind_s]
  by_cases h2 : 0 ≤ x1 ∧ x1 ≤ 8
  rotate_left
  · rw [b01_f (show ¬ (0 ≤ x1 ∧ x1 < 9) by omega), b01_f h2, if_pos rfl, if_pos rfl]; exact ⟨_, rfl, rfl, hI⟩
  rw [b01_t (show 0 ≤ x1 ∧ x1 < 9 by omega), b01_t h2, if_neg (show ¬ (1 : Int) = 0 by omega), if_neg (show ¬ (1 : Int) = 0 by omega)]
  by_cases h3 : σM.1 0 37 = 0
  · rw [if_pos (b1.trans h3), if_pos h3]; exact ⟨_, rfl, rfl, hI⟩
  obtain ⟨-, t0, t1, t2, t3, t4, t5, t6, t7, t8⟩ := (hn (by omega)).2.1
  rw [if_neg (show ¬ σC.1 0 6 = 0 by omega), if_neg h3, ck_pos (by omega), g_or t7, bind_s]
  obtain rfl | rfl | rfl | rfl | rfl | rfl | rfl | rfl | rfl : x1 = 0 ∨ x1 = 1 ∨ x1 = 2 ∨ x1 = 3 ∨ x1 = 4 ∨ x1 = 5 ∨ x1 = 6 ∨ x1 = 7 ∨ x1 = 8 := by omega
  · exact ⟨_, rfl, congrArg some t0.symm, hI⟩
  · exact ⟨_, rfl, congrArg some t1.symm, hI⟩
  · exact ⟨_, rfl, congrArg some t2.symm, hI⟩
  · exact ⟨_, rfl, congrArg some t3.symm, hI⟩
  · exact ⟨_, rfl, congrArg some t4.symm, hI⟩
  · exact ⟨_, rfl, congrArg some t5.symm, hI⟩
  · exact ⟨_, rfl, congrArg some t6.symm, hI⟩
  · exact ⟨_, rfl, rfl, hI⟩
  · exact ⟨_, rfl, congrArg some t8.symm, hI⟩
theorem e_isRowO {σC σM : Mm} (hP : PR σC σM) {i : Nat} (hi : i < 300) (h : HpA σC σM i) : f_X2_isRow i σC = some (b01 (σC.1 8 (Int.toNat (σM.1 21 i)) = 1)) := by
  have h12 := hP.1.2.2.1
  obtain ⟨⟨a1, -, -⟩, a4, -⟩ := h
  unfold f_X2_isRow
  rw [ck_pos (by omega), Int.toNat_natCast, a1, ck_pos (by omega)]
  unfold b01
  split <;> rfl
theorem g_isRowNow {σC σM : Mm} (hP : PR σC σM) {i : Nat} (hi : i < 300) (h : HpA σC σM i) : f_X7_isRowNow i σM = some (b01 (σC.1 8 (Int.toNat (σM.1 21 i)) = 1)) := by
  have h12 := hP.1.2.2.1
  obtain ⟨⟨a1, -, -⟩, a4, -⟩ := h
  have p8 := (hP.2.2.2.2.2.1 (Int.toNat (σM.1 21 i)) (by omega)).1.2.2.1
  unfold f_X7_isRowNow
  rw [ck_pos (by omega), Int.toNat_natCast, ck_pos (by omega), p8]
  unfold b01
  split <;> rfl
theorem e_classO {σC σM : Mm} (hP : PR σC σM) {i : Nat} (hi : i < 300) (h : HpA σC σM i) : f_X2_classOf i σC = some (σM.1 29 i) := by
  obtain ⟨⟨a1, -, -⟩, a4, a5, a6, -⟩ := h
  unfold f_X2_classOf
  rw [ck_pos (by omega), Int.toNat_natCast, a1, show σM.1 21 i = ((Int.toNat (σM.1 21 i) : Nat) : Int) by omega, e_madeClass hP (by omega) a5, bind_s, a6]
theorem st_object : St_object Inv := by
  intro x1 x2 σC σM _ _ _ _ hI
  obtain ⟨hP, -, ⟨b1, b2⟩, -, -, hn⟩ := id hI
  unfold f_X6_object f_X7_object
  rw [e_isIn, bind_s]
  by_cases h3 : σM.1 0 37 = 0
  · rw [if_pos h3, if_pos (b1.trans h3)]
    refine ⟨-1, ?_, rfl, hI⟩
    split <;> rfl
  rw [if_neg h3, if_neg (show ¬ σC.1 0 6 = 0 by omega)]
  obtain ⟨⟨⟨t1, t2, t3⟩, -⟩, hh⟩ := (hn (by omega)).2
  rw [ck_pos (show inR (σM.1 0 46 - 1) by omega), e_isIn, g_in, bind_s, bind_s, g_in, t1]
  by_cases h1 : 0 ≤ x1 ∧ x1 < σM.1 0 46
  rotate_left
  · rw [b01_f h1, b01_f (show ¬ (0 ≤ x1 ∧ x1 ≤ σM.1 0 46 - 1) by omega), if_pos rfl, if_pos rfl]
    refine ⟨-1, ?_, rfl, hI⟩
    split <;> rfl
  rw [b01_t h1, b01_t (show 0 ≤ x1 ∧ x1 ≤ σM.1 0 46 - 1 by omega), if_neg (show ¬ (1 : Int) = 0 by omega), if_neg (show ¬ (1 : Int) = 0 by omega), bind_s]
  by_cases h2 : 0 ≤ x2 ∧ x2 ≤ 12
  rotate_left
  · rw [b01_f (show ¬ (0 ≤ x2 ∧ x2 < 13) by omega), b01_f h2, if_pos rfl, if_pos rfl]; exact ⟨_, rfl, rfl, hI⟩
  rw [b01_t (show 0 ≤ x2 ∧ x2 < 13 by omega), b01_t h2, if_neg (show ¬ (1 : Int) = 0 by omega), if_neg (show ¬ (1 : Int) = 0 by omega)]
  obtain ⟨i, rfl⟩ : ∃ i : Nat, x1 = i := ⟨Int.toNat x1, by omega⟩
  have hH := hh i h1.2
  have hi : i < 300 := by omega
  obtain ⟨⟨c1, c2, c3⟩, -, -, -, c7⟩ := id hH
  rw [g_isRowNow hP hi hH, bind_s, e_classO hP hi hH, bind_s]
  unfold f_X2_placeOf f_X2_fieldOf f_X7_object_72
  rw [e_isRowO hP hi hH, bind_s, bind_s]
  have hi3 : (0 : Int) ≤ (i : Int) ∧ (i : Int) < ((300 : Nat) : Int) := by omega
  simp only [ck_pos hi3, Int.toNat_natCast, c1, c2, c3]
  by_cases q0 : x2 = 0
  · rw [if_pos q0, if_pos (show x2 ≤ 3 by omega), if_pos q0]; exact ⟨_, rfl, rfl, hI⟩
  by_cases q1 : x2 = 1
  · rw [if_neg q0, if_pos q1, if_pos (show x2 ≤ 3 by omega), if_neg q0, if_pos q1]; exact ⟨_, rfl, rfl, hI⟩
  by_cases q2 : x2 = 2
  · rw [if_neg q0, if_neg q1, if_pos q2, if_pos (show x2 ≤ 3 by omega), if_neg q0, if_neg q1, if_pos q2]; exact ⟨_, rfl, rfl, hI⟩
  by_cases q3 : x2 = 3
  · rw [if_neg q0, if_neg q1, if_neg q2, if_pos q3, if_pos (show x2 ≤ 3 by omega), if_neg q0, if_neg q1, if_neg q2]; exact ⟨_, rfl, rfl, hI⟩
  rw [if_neg q0, if_neg q1, if_neg q2, if_neg q3, if_neg (show ¬ x2 ≤ 3 by omega)]
  by_cases q8 : 8 ≤ x2
  · obtain ⟨p, hp⟩ : ∃ p : Nat, x2 - 8 = p := ⟨Int.toNat (x2 - 8), by omega⟩
    rw [if_pos q8, if_neg (show ¬ x2 ≤ 7 by omega), if_neg (show ¬ (1 : Int) = 0 by omega), hp, ck_pos (show inR (p : Int) by omega), ck_pos (show inR (p : Int) by omega)]
    by_cases hr : σC.1 8 (Int.toNat (σM.1 21 i)) = 1
    · rw [b01_t hr, if_neg (show ¬ (1 : Int) = 0 by omega), if_pos rfl, ck_pos (by omega), ck_pos (by omega), show Int.toNat ((i : Int) * 5 + p) = 5 * i + p by omega, show Int.toNat (5 * (i : Int) + p) = 5 * i + p by omega, g_or (c7 p (by omega)), bind_s]
      exact ⟨_, rfl, rfl, hI⟩
    · rw [b01_f hr, if_pos rfl, if_neg (show ¬ (1 : Int) = 0 by omega)]
      exact ⟨_, rfl, rfl, hI⟩
  · obtain ⟨p, hp⟩ : ∃ p : Nat, x2 - 4 = p := ⟨Int.toNat (x2 - 4), by omega⟩
    rw [if_neg q8, if_pos (show x2 ≤ 7 by omega), if_pos trivial, hp, ck_pos (show inR (p : Int) by omega), ck_pos (show inR (p : Int) by omega)]
    by_cases hr : σC.1 8 (Int.toNat (σM.1 21 i)) = 1
    · rw [b01_t hr, if_neg (show ¬ (1 : Int) = 0 by omega), if_neg (show ¬ (0 : Int) = 1 by omega)]
      exact ⟨_, rfl, rfl, hI⟩
    · rw [b01_f hr, if_pos rfl, if_pos rfl, ck_pos (by omega), ck_pos (by omega), show Int.toNat ((i : Int) * 5 + p) = 5 * i + p by omega, show Int.toNat (5 * (i : Int) + p) = 5 * i + p by omega, g_or (c7 p (by omega)), bind_s]
      exact ⟨_, rfl, rfl, hI⟩
