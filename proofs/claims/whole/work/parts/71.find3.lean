/-! CONTEXTS -/
theorem oi_nI (n : Nat) : oi (n : Int) = nI n := Int32.ofInt_eq_ofNat
theorem nI_or (a b : Nat) : nI a ||| nI b = nI (a ||| b) := by
  apply Int32.toBitVec.inj
  apply BitVec.eq_of_toNat_eq
  rw [Int32.toBitVec_or, BitVec.toNat_or]
  show (BitVec.ofNat 32 a).toNat ||| (BitVec.ofNat 32 b).toNat = (BitVec.ofNat 32 (a ||| b)).toNat
  rw [BitVec.toNat_ofNat, BitVec.toNat_ofNat, BitVec.toNat_ofNat, Nat.or_mod_two_pow]
def pk (a b : Int) : Int := (a + 1) * 256 + (b + 1)
theorem shl8 {a : Nat} (h : a < 8388608) : iShl (a : Int) 8 = (a : Int) * 256 := by
  unfold iShl
  rw [oi_nI, pk_shlN (n := a) (oi 8 &&& 31) 8 (by decide) (by omega)]
  rw [nI_toInt (by omega)]
  omega
theorem shr8 {a : Nat} (h : a < 2147483648) : iShr (a : Int) 8 = (a : Int) / 256 := by
  unfold iShr
  rw [oi_nI, pk_shrN (n := a) (by omega) (oi 8 &&& 31) 8 (by decide), nI_toInt (by omega)]
  omega
theorem or8 {a b : Nat} (ha : a < 256) (hb : b < 256) : iOr ((a : Int) * 256) (b : Int) = (a : Int) * 256 + b := by
  unfold iOr
  have e : (a : Int) * 256 = ((a * 256 : Nat) : Int) := by omega
  have e2 : a * 256 ||| b = a * 256 + b := by
    have := Nat.shiftLeft_add_eq_or_of_lt (a := a) (b := b) (i := 8) (by omega)
    rw [Nat.shiftLeft_eq] at this
    exact this.symm
  rw [e, oi_nI, oi_nI, nI_or, e2, nI_toInt (by omega)]
  omega
theorem pk_inj {a b a' b' : Int} (h1 : -1 ≤ b ∧ b ≤ 189) (h2 : -1 ≤ b' ∧ b' ≤ 189) (h : pk a b = pk a' b') : a = a' ∧ b = b' := by
  unfold pk at h
  omega
def red1 (d x : Int) : Int := if d = 0 then -1 else x
def red2 (d x : Int) : Int := if d < 2 then -1 else x
def ask1 (τ : Mm) (s : Int) (y : Nat) : Int := red1 (τ.1 0 19) (if τ.1 0 18 = 0 then s else 100 + τ.1 17 y)
def ask2 (τ : Mm) (n y : Nat) : Int := red2 (τ.1 0 19) (if τ.1 0 18 = 0 then τ.1 14 n else τ.1 14 (Int.toNat (τ.1 18 y)))
def call1 (τ : Mm) (n : Nat) (s : Int) : Int := red1 (τ.1 0 19) (if τ.1 0 18 = 1 then τ.1 14 n else s)
def call2 (τ : Mm) (n : Nat) : Int := red2 (τ.1 0 19) (if τ.1 0 18 = 1 then τ.1 15 n else τ.1 14 n)
/-- only 'one' and 'two' have changed -/
def OT (τ τ' : Mm) (a b : Int) : Prop := τ'.1 0 34 = a ∧ τ'.1 0 35 = b ∧ (∀ k j, ¬ (k = 0 ∧ (j = 34 ∨ j = 35)) → τ'.1 k j = τ.1 k j) ∧ τ'.2 = τ.2
theorem g_ctx113 {τ : Mm} {a b : Int} (h : τ.1 0 34 = a) : ∃ τ', f_X7_context_113 b τ = some τ' ∧ OT τ τ' (red1 (τ.1 0 19) a) (red2 (τ.1 0 19) b) := by
  unfold f_X7_context_113
  have e1 : (stI τ 0 35 b).1 0 19 = τ.1 0 19 := by simp [stI_1]
  have e2 : (stI τ 0 35 b).1 0 34 = a := by rw [← h]; simp [stI_1]
  have e3 : ∀ z : Int, (stI (stI τ 0 35 b) 0 34 z).1 0 19 = τ.1 0 19 := fun z => by simp [stI_1]
  have e4 : ∀ z : Int, (stI (stI τ 0 35 b) 0 34 z).1 0 35 = b := fun z => by simp [stI_1]
  rw [e1, e2, e3, e3, e4, e4, bind_s, bind_s, bind_s]
  have fin : ∀ z w : Int, OT τ (stI (stI (stI τ 0 35 b) 0 34 z) 0 35 w) z w := fun z w => by
    refine ⟨by simp [stI_1], by simp [stI_1], fun k j hk => ?_, rfl⟩
    have h34 : ¬ (k = 0 ∧ j = 34) := fun q => hk ⟨q.1, Or.inl q.2⟩
    have h35 : ¬ (k = 0 ∧ j = 35) := fun q => hk ⟨q.1, Or.inr q.2⟩
    rw [stI_1, if_neg h35, stI_1, if_neg h34, stI_1, if_neg h35]
  unfold red1 red2
  by_cases h0 : τ.1 0 19 = 0
  · rw [if_pos h0, if_pos h0, if_neg (by omega), if_pos (by omega)]
    exact ⟨_, rfl, fin _ _⟩
  · rw [if_neg h0, if_neg h0]
    by_cases h2 : 2 ≤ τ.1 0 19
    · rw [if_pos h2, if_neg (by omega)]
      exact ⟨_, rfl, fin _ _⟩
    · rw [if_neg h2, if_pos (by omega)]
      exact ⟨_, rfl, fin _ _⟩
theorem OT_tr {τ τ1 τ2 : Mm} {a b c d : Int} (h1 : ∀ k j, ¬ (k = 0 ∧ (j = 34 ∨ j = 35)) → τ1.1 k j = τ.1 k j) (h2 : τ1.2 = τ.2) (h : OT τ1 τ2 a b) (ea : a = c) (eb : b = d) : OT τ τ2 c d := by
  subst ea; subst eb
  exact ⟨h.1, h.2.1, fun k j hk => (h.2.2.1 k j hk).trans (h1 k j hk), h.2.2.2.trans h2⟩
theorem st34 {τ : Mm} {z : Int} : ∀ k j, ¬ (k = 0 ∧ (j = 34 ∨ j = 35)) → (stI τ 0 34 z).1 k j = τ.1 k j := fun k j hk => by
  rw [stI_1, if_neg (fun q => hk ⟨q.1, Or.inl q.2⟩)]
theorem g_ctxAsk {o : Nat} {σC τ : Mm} (h : RF o σC τ) {n s y : Nat} (hn : (n : Int) < τ.1 0 24) (hy : (y : Int) < τ.1 0 29) : ∃ τ', f_X7_context n s y τ = some τ' ∧ OT τ τ' (ask1 τ s y) (ask2 τ n y) := by
  obtain ⟨hP, ⟨-, s7, s8, s9, s10, s11⟩, hnn, hxx, -⟩ := h
  obtain ⟨-, x1, -, x3, -⟩ := hxx y hy
  have hP12 : σC.1 1 2 ≤ 90 := hP.1.2.2.1.2
  unfold f_X7_context
  rw [if_pos (by omega), if_neg (by omega)]
  unfold ask1 ask2
  by_cases hm : τ.1 0 18 = 0
  · rw [if_pos (by omega), if_pos hm, if_pos hm]
    unfold f_X7_context_35
    rw [if_pos rfl, if_pos rfl]
    unfold f_X7_context_70
    rw [if_pos rfl, if_pos rfl, ck_pos (by omega), Int.toNat_natCast]
    obtain ⟨τ', q1, q2⟩ := g_ctx113 (τ := stI τ 0 34 s) (a := s) (b := (stI τ 0 34 s).1 14 n) (by simp [stI_1])
    refine ⟨τ', q1, OT_tr st34 rfl q2 ?_ ?_⟩
    · simp [stI_1]
    · simp [stI_1]
  · rw [if_neg (by omega), if_neg hm, if_neg hm]
    unfold f_X7_context_35
    rw [if_pos rfl, if_neg (by decide), ck_pos (by omega), Int.toNat_natCast, ck_pos (by omega)]
    unfold f_X7_context_70
    have e18 : (stI τ 0 34 (100 + τ.1 17 y)).1 18 y = τ.1 18 y := by simp [stI_1]
    rw [if_pos rfl, if_neg (by decide), ck_pos (by omega), Int.toNat_natCast, e18, ck_pos (by omega)]
    obtain ⟨τ', q1, q2⟩ := g_ctx113 (τ := stI τ 0 34 (100 + τ.1 17 y)) (a := 100 + τ.1 17 y) (b := (stI τ 0 34 (100 + τ.1 17 y)).1 14 (Int.toNat (τ.1 18 y))) (by simp [stI_1])
    refine ⟨τ', q1, OT_tr st34 rfl q2 ?_ ?_⟩
    · simp [stI_1]
    · simp [stI_1]
theorem g_ctxCall {o : Nat} {σC τ : Mm} (h : RF o σC τ) {n s : Nat} (hn : (n : Int) < τ.1 0 24) : ∃ τ', f_X7_context n s (-1) τ = some τ' ∧ OT τ τ' (call1 τ n s) (call2 τ n) := by
  obtain ⟨hP, ⟨-, s7, s8, s9, s10, s11⟩, hnn, hxx, -⟩ := h
  unfold f_X7_context
  rw [if_neg (by decide)]
  unfold call1 call2
  by_cases hm : τ.1 0 18 = 1
  · rw [if_pos hm, if_pos (by decide), if_pos hm, if_pos hm]
    unfold f_X7_context_35
    rw [if_neg (by decide), ck_pos (by omega), Int.toNat_natCast]
    unfold f_X7_context_70
    rw [if_neg (by decide), ck_pos (by omega), Int.toNat_natCast]
    obtain ⟨τ', q1, q2⟩ := g_ctx113 (τ := stI τ 0 34 (τ.1 14 n)) (a := τ.1 14 n) (b := (stI τ 0 34 (τ.1 14 n)).1 15 n) (by simp [stI_1])
    refine ⟨τ', q1, OT_tr st34 rfl q2 ?_ ?_⟩
    · simp [stI_1]
    · simp [stI_1]
  · rw [if_neg hm, if_pos (by decide), if_neg hm, if_neg hm]
    unfold f_X7_context_35
    rw [if_pos rfl, if_pos rfl]
    unfold f_X7_context_70
    rw [if_pos rfl, if_pos rfl, ck_pos (by omega), Int.toNat_natCast]
    obtain ⟨τ', q1, q2⟩ := g_ctx113 (τ := stI τ 0 34 s) (a := s) (b := (stI τ 0 34 s).1 14 n) (by simp [stI_1])
    refine ⟨τ', q1, OT_tr st34 rfl q2 ?_ ?_⟩
    · simp [stI_1]
    · simp [stI_1]
theorem e_ahead {o : Nat} {σ : Mm} {x f g : Int} (hx : 0 ≤ x ∧ x ≤ 189) (hf : -1 ≤ f ∧ f ≤ 189) (hg : -1 ≤ g ∧ g ≤ 189) (hd : 0 ≤ σ.1 (o + 9) 1 ∧ σ.1 (o + 9) 1 ≤ 2) : f_X5_ahead o x (pk f g) σ = some (pk (red1 (σ.1 (o + 9) 1) x) (red2 (σ.1 (o + 9) 1) f)) := by
  obtain ⟨a, ha⟩ : ∃ a : Nat, x + 1 = a := ⟨Int.toNat (x + 1), by omega⟩
  obtain ⟨c, hc⟩ : ∃ c : Nat, pk f g = c := ⟨Int.toNat (pk f g), by unfold pk; omega⟩
  obtain ⟨d, hd'⟩ : ∃ d : Nat, f + 1 = d := ⟨Int.toNat (f + 1), by omega⟩
  unfold f_X5_ahead red1 red2
  by_cases h0 : σ.1 (o + 9) 1 = 0
  · rw [if_pos h0, if_pos h0, if_pos (by omega)]
    rfl
  · rw [if_neg h0, if_neg h0]
    by_cases h1 : σ.1 (o + 9) 1 = 1
    · rw [if_pos h1, if_pos (by omega), ha, shl8 (by omega)]
      congr 1
      unfold pk
      omega
    · rw [if_neg h1, if_neg (by omega), ha, shl8 (by omega), hc, shr8 (by unfold pk at hc; omega)]
      have e : (c : Int) / 256 = (d : Int) := by unfold pk at hc; omega
      rw [e, or8 (by omega) (by omega)]
      congr 1
      unfold pk
      omega
theorem e_ctxAsk {o : Nat} {σC τ : Mm} (h : RF o σC τ) {n s y : Nat} (hn : (n : Int) < τ.1 0 24) (hy : (y : Int) < τ.1 0 29) (hs : (s : Int) < σC.1 1 2) : f_X5_contextOfAsked o n s y σC = some (pk (ask1 τ s y) (ask2 τ n y)) := by
  obtain ⟨hP, ⟨⟨-, -, t3, t4, -, -⟩, s7, s8, s9, s10, s11⟩, hnn, hxx, -⟩ := h
  have hP12 : σC.1 1 2 ≤ 90 := hP.1.2.2.1.2
  obtain ⟨⟨y1, y2⟩, y3, -, y5, -⟩ := hxx y hy
  unfold f_X5_contextOfAsked ask1 ask2
  rw [t3]
  by_cases hm : τ.1 0 18 = 0
  · obtain ⟨⟨-, n2⟩, -, n4, n5, -⟩ := hnn n hn
    rw [if_pos hm, if_pos hm, if_pos hm, ck_pos (by omega), Int.toNat_natCast, n2]
    rw [show (τ.1 14 n + 1) * 256 + (τ.1 15 n + 1) = pk (τ.1 14 n) (τ.1 15 n) from rfl, e_ahead (by omega) n4 n5 (by omega), bind_s, t4]
  · obtain ⟨⟨-, n2⟩, -, n4, n5, -⟩ := hnn (Int.toNat (τ.1 18 y)) (by omega)
    rw [if_neg hm, if_neg hm, if_neg hm, ck_pos (by omega), Int.toNat_natCast, ck_pos (by omega), y1, y2, ck_pos (by omega), ck_pos (by omega), n2]
    rw [show (τ.1 14 (Int.toNat (τ.1 18 y)) + 1) * 256 + (τ.1 15 (Int.toNat (τ.1 18 y)) + 1) = pk (τ.1 14 (Int.toNat (τ.1 18 y))) (τ.1 15 (Int.toNat (τ.1 18 y))) from rfl, e_ahead (by omega) n4 n5 (by omega), bind_s, t4, Int.add_comm (τ.1 17 y) 100]
theorem e_ctxCall {o : Nat} {σC τ : Mm} (h : RF o σC τ) {n s : Nat} (hn : (n : Int) < τ.1 0 24) (hs : (s : Int) < σC.1 1 2) : f_X5_contextOfCalled o n s σC = some (pk (call1 τ n s) (call2 τ n)) := by
  obtain ⟨hP, ⟨⟨-, -, t3, t4, -, -⟩, s7, s8, s9, s10, s11⟩, hnn, hxx, -⟩ := h
  have hP12 : σC.1 1 2 ≤ 90 := hP.1.2.2.1.2
  obtain ⟨⟨-, n2⟩, -, n4, n5, n6, n7⟩ := hnn n hn
  unfold f_X5_contextOfCalled call1 call2
  rw [t3]
  by_cases hm : τ.1 0 18 = 1
  · rw [if_pos hm, if_pos hm, if_pos hm, ck_pos (by omega), Int.toNat_natCast, n2]
    congr 1
    show pk (τ.1 14 n) (τ.1 15 n) = _
    unfold red1 red2
    by_cases h0 : τ.1 0 19 = 0
    · rw [if_pos h0, if_pos (by omega), n6 h0, n7 (by omega)]
    · rw [if_neg h0]
      by_cases h2 : τ.1 0 19 < 2
      · rw [if_pos h2, n7 h2]
      · rw [if_neg h2]
  · rw [if_neg hm, if_neg hm, if_neg hm, ck_pos (by omega), Int.toNat_natCast, n2]
    rw [show (τ.1 14 n + 1) * 256 + (τ.1 15 n + 1) = pk (τ.1 14 n) (τ.1 15 n) from rfl, e_ahead (by omega) n4 n5 (by omega), bind_s, t4]
/-- in what range a new CONTEXT lies -/
theorem ctx_rng {o : Nat} {σC τ : Mm} (h : RF o σC τ) {n s : Nat} (hn : (n : Int) < τ.1 0 24) (hs : (s : Int) < σC.1 1 2) : ((-1 ≤ call1 τ n s ∧ call1 τ n s ≤ 189) ∧ (-1 ≤ call2 τ n ∧ call2 τ n ≤ 189) ∧ (τ.1 0 19 = 0 → call1 τ n s = -1) ∧ (τ.1 0 19 < 2 → call2 τ n = -1)) ∧ ∀ y : Nat, (y : Int) < τ.1 0 29 → (-1 ≤ ask1 τ s y ∧ ask1 τ s y ≤ 189) ∧ (-1 ≤ ask2 τ n y ∧ ask2 τ n y ≤ 189) ∧ (τ.1 0 19 = 0 → ask1 τ s y = -1) ∧ (τ.1 0 19 < 2 → ask2 τ n y = -1) := by
  obtain ⟨hP, ⟨⟨-, -, t3, t4, -, -⟩, s7, s8, s9, s10, s11⟩, hnn, hxx, -⟩ := h
  have hP12 : σC.1 1 2 ≤ 90 := hP.1.2.2.1.2
  obtain ⟨-, -, n4, n5, n6, n7⟩ := hnn n hn
  refine ⟨?_, fun y hy => ?_⟩
  · unfold call1 call2 red1 red2
    refine ⟨?_, ?_, fun z => by rw [if_pos z], fun z => by rw [if_pos z]⟩
    · split
      · omega
      · split <;> omega
    · split
      · omega
      · split <;> omega
  · obtain ⟨-, y3, -, y5, -⟩ := hxx y hy
    obtain ⟨-, -, m4, -⟩ := hnn (Int.toNat (τ.1 18 y)) (by omega)
    unfold ask1 ask2 red1 red2
    refine ⟨?_, ?_, fun z => by rw [if_pos z], fun z => by rw [if_pos z]⟩
    · split
      · omega
      · split <;> omega
    · split
      · omega
      · split <;> omega
