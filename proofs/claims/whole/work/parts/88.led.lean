/-! the reference asks whether a NODE is led to -/
def LO (τ τ' : Mm) : Prop := (∀ k j, ¬ (k = 0 ∧ (j = 34 ∨ j = 35 ∨ j = 36)) → τ'.1 k j = τ.1 k j) ∧ τ'.2 = τ.2
theorem LO.rf {τ : Mm} : LO τ τ := ⟨fun _ _ _ => rfl, rfl⟩
theorem LO.tr {a b c : Mm} (h1 : LO a b) (h2 : LO b c) : LO a c := ⟨fun k j hk => (h2.1 k j hk).trans (h1.1 k j hk), h2.2.trans h1.2⟩
theorem OT_LO {τ τ' : Mm} {a b : Int} (h : OT τ τ' a b) : LO τ τ' := ⟨fun k j hk => h.2.2.1 k j (by omega), h.2.2.2⟩
theorem LO_36 {τ : Mm} {v : Int} : LO τ (stI τ 0 36 v) := ⟨fun k j hk => by rw [stI_1, if_neg (by omega)], rfl⟩
theorem LO_row {τ τ' : Mm} (h : LO τ τ') {k : Nat} (hk : k ≠ 0) : τ'.1 k = τ.1 k := by funext i; exact h.1 k i (by omega)
theorem RF_LO {o : Nat} (ho : o = 15 ∨ o = 29) {σC τ τ' : Mm} (h : RF o σC τ) (ht : LO τ τ') : RF o σC τ' := by
  obtain ⟨hP, hs, hn, hxx, hh, hi, hg, hb, hu⟩ := h
  have e : ∀ k j, ¬ (k = 0 ∧ (j = 34 ∨ j = 35 ∨ j = 36)) → τ'.1 k j = τ.1 k j := ht.1
  have e24 := e 0 24 (by decide); have e29 := e 0 29 (by decide); have e22 := e 0 22 (by decide); have e18 := e 0 18 (by decide); have e19 := e 0 19 (by decide); have e21 := e 0 21 (by decide)
  have e13 := LO_row ht (k := 13) (by decide); have e14 := LO_row ht (k := 14) (by decide); have e15 := LO_row ht (k := 15) (by decide); have e17 := LO_row ht (k := 17) (by decide); have e18' := LO_row ht (k := 18) (by decide)
  have xse : ∀ i, xst τ' i = xst τ i := fun i => by unfold xst; rw [e17]
  refine ⟨PR_congr hP (fun _ _ _ => rfl) (fun k k1 _ => LO_row ht (by omega)) (e 0 0 (by decide)) (e 0 2 (by decide)) (e 0 7 (by decide)) (e 0 8 (by decide)), ?_, ?_, ?_, ?_, ?_, ?_, ?_, ?_⟩
  · unfold RFs; rw [e24, e29, e22, e18, e19, e21]; exact hs
  · unfold RFn; rw [e24, e13, e14, e15, e19]; exact hn
  · unfold RFx; simp only [xse]; rw [e29, e24, e17, e18', e13]; exact hxx
  · unfold RFh; rw [e24, e29, ht.2]; exact hh
  · unfold RFi; rw [e29, ht.2]; exact hi
  · unfold RFg; rw [e29, ht.2]; exact hg
  · unfold RFb; simp only [xse]; rw [e29]; exact hb
  · unfold RFu; rw [e24, e29, e13, e14, e15, e17, e18']; exact hu
theorem LedY_LO {σC τ τ' : Mm} (h : LO τ τ') (k s t y : Nat) : LedY σC τ' k s t y = LedY σC τ k s t y := by
  unfold LedY mnt xst ask1 ask2
  rw [LO_row h (k := 13) (by decide), LO_row h (k := 14) (by decide), LO_row h (k := 15) (by decide), LO_row h (k := 17) (by decide), LO_row h (k := 18) (by decide), h.2, h.1 0 18 (by decide), h.1 0 19 (by decide)]
theorem LedB_LO {σC τ τ' : Mm} (h : LO τ τ') (k s t : Nat) : LedB σC τ' k s t = LedB σC τ k s t := by
  have e : LedY σC τ' k s t = LedY σC τ k s t := by funext y; exact LedY_LO h k s t y
  unfold LedB call1 call2
  rw [e, LO_row h (k := 13) (by decide), LO_row h (k := 14) (by decide), LO_row h (k := 15) (by decide), h.1 0 18 (by decide), h.1 0 19 (by decide), h.1 0 29 (by decide)]
theorem g_isLed_aux {o : Nat} (ho : o = 15 ∨ o = 29) {σC τ0 : Mm} {n s t N : Nat} {bits : Int64} (hs : (s : Int) < σC.1 1 2) (hk : σC.1 8 s = 9) (hb : bits = τ0.2 16 (8 * n + Int.toNat (σC.1 10 s))) (hN : τ0.1 0 29 = N) (hn : (n : Int) < τ0.1 0 24) (ht : (t : Int) < τ0.1 0 24) : ∀ (k f x : Nat) (τ : Mm), RF o σC τ → LO τ0 τ → τ.1 0 36 = τ0.1 0 36 → x + k = N → k < f → ∃ τ', LO τ0 τ' ∧ τ'.1 0 36 = τ0.1 0 36 ∧ ((f_X7_isLed_86 f n s t bits x τ = some (1, τ') ∧ ∃ y, (x ≤ y ∧ y < N) ∧ LedY σC τ0 n s t y = true) ∨ (f_X7_isLed_86 f n s t bits x τ = some (0, τ') ∧ ∀ y, (x ≤ y ∧ y < N) → ¬ LedY σC τ0 n s t y = true)) := by
  intro k
  induction k with
  | zero =>
    intro f x τ h hL h36 hx hf
    obtain ⟨f, rfl⟩ : ∃ g, f = g + 1 := ⟨f - 1, by omega⟩
    have e29 := hL.1 0 29 (by decide)
    rw [f_X7_isLed_86, if_pos (by omega)]
    exact ⟨τ, hL, h36, Or.inr ⟨rfl, fun y hy => by omega⟩⟩
  | succ k ih =>
    intro f x τ h hL h36 hx hf
    obtain ⟨f, rfl⟩ : ∃ g, f = g + 1 := ⟨f - 1, by omega⟩
    have e29 := hL.1 0 29 (by decide)
    have e24 := hL.1 0 24 (by decide)
    obtain ⟨-, s7, s8, -⟩ := h.2.1
    have h12 := h.1.1.2.2.1
    have cc : (x : Int) + 1 = ((x + 1 : Nat) : Int) := by omega
    have hxn : (x : Int) < τ.1 0 29 := by omega
    obtain ⟨-, n3, -⟩ := h.2.2.1 t (by omega)
    obtain ⟨⟨-, -, -, -, -, p11, -⟩, -⟩ := h.1.2.2.2.2.2.1 s hs
    have next : ∀ τ1, RF o σC τ1 → LO τ0 τ1 → τ1.1 0 36 = τ0.1 0 36 → ¬ LedY σC τ0 n s t x = true → ∃ τ', LO τ0 τ' ∧ τ'.1 0 36 = τ0.1 0 36 ∧ ((f_X7_isLed_86 f n s t bits ((x + 1 : Nat) : Int) τ1 = some (1, τ') ∧ ∃ y, (x ≤ y ∧ y < N) ∧ LedY σC τ0 n s t y = true) ∨ (f_X7_isLed_86 f n s t bits ((x + 1 : Nat) : Int) τ1 = some (0, τ') ∧ ∀ y, (x ≤ y ∧ y < N) → ¬ LedY σC τ0 n s t y = true)) := fun τ1 g1 g2 g3 hno => by
      obtain ⟨τ', r1, r2, r3⟩ := ih f (x + 1) τ1 g1 g2 g3 (by omega) (by omega)
      refine ⟨τ', r1, r2, ?_⟩
      rcases r3 with ⟨r3, y, y1, y2⟩ | ⟨r3, r4⟩
      · exact Or.inl ⟨r3, y, by omega, y2⟩
      · refine Or.inr ⟨r3, fun y hy => ?_⟩
        by_cases e : y = x
        · subst e; exact hno
        · exact r4 y (by omega)
    have eY : LedY σC τ0 n s t x = true ↔ lb bits x = true ∧ mnt σC τ s x = τ.1 13 t ∧ τ.1 14 t = ask1 τ s x ∧ τ.1 15 t = ask2 τ n x := by
      rw [← LedY_LO hL, LedY_iff, hb, hL.2]
    rw [f_X7_isLed_86, if_neg (by omega)]
    by_cases hbx : lb bits x = true
    · have hg := g_methodAskedOf h hs hk hxn
      rw [g_classOf h hxn, bind_s] at hg
      rw [if_pos ((lbit1 bits (by omega)).mpr hbx), g_classOf h hxn, bind_s, ck_pos (by omega), Int.toNat_natCast, p11, hg, bind_s]
      unfold f_X7_isLed_127
      rw [ck_pos (by omega), Int.toNat_natCast]
      by_cases hm : mnt σC τ s x = τ.1 13 t
      · obtain ⟨τ1, m1, m2⟩ := g_ctxAsk h (s := s) (show (n : Int) < τ.1 0 24 by omega) hxn
        have h1 := OT_RF ho h m2
        have L1 := hL.tr (OT_LO m2)
        have z36 : τ1.1 0 36 = τ0.1 0 36 := (m2.2.2.1 0 36 (by decide)).trans h36
        rw [if_pos hm, m1, bind_s, ck_pos (by omega), m2.1, m2.2.1, m2.2.2.1 14 t (by omega), m2.2.2.1 15 t (by omega)]
        by_cases h2 : τ.1 14 t = ask1 τ s x
        · rw [if_pos h2, ck_pos (by omega)]
          by_cases h3 : τ.1 15 t = ask2 τ n x
          · rw [if_pos h3]
            exact ⟨τ1, L1, z36, Or.inl ⟨rfl, x, by omega, eY.mpr ⟨hbx, hm, h2, h3⟩⟩⟩
          · rw [if_neg h3, ck_pos (by omega), cc]
            exact next τ1 h1 L1 z36 (fun z => h3 (eY.mp z).2.2.2)
        · rw [if_neg h2, ck_pos (by omega), cc]
          exact next τ1 h1 L1 z36 (fun z => h2 (eY.mp z).2.2.1)
      · rw [if_neg hm, ck_pos (by omega), cc]
        exact next τ h hL h36 (fun z => hm (eY.mp z).2.1)
    · rw [if_neg (fun z => hbx ((lbit1 bits (by omega)).mp z))]
      unfold f_X7_isLed_127
      rw [ck_pos (by omega), Int.toNat_natCast, if_neg (by omega), ck_pos (by omega), cc]
      exact next τ h hL h36 (fun z => hbx (eY.mp z).1)
theorem g_isLed {o : Nat} (ho : o = 15 ∨ o = 29) {σC τ : Mm} (h : RF o σC τ) {n s t : Nat} (hn : (n : Int) < τ.1 0 24) (ht : (t : Int) < τ.1 0 24) (hs : (s : Int) < σC.1 1 2) (hk : σC.1 8 s = 9 ∨ σC.1 8 s = 10) : ∃ τ', f_X7_isLed n s t τ = some (b01 (LedB σC τ n s t = true), τ') ∧ LO τ τ' ∧ τ'.1 0 36 = τ.1 0 36 := by
  obtain ⟨-, s7, s8, -⟩ := h.2.1
  have h12 := h.1.1.2.2.1
  obtain ⟨⟨-, -, p8, -, p10, p11, -⟩, -⟩ := h.1.2.2.2.2.2.1 s hs
  unfold f_X7_isLed
  rw [ck_pos (by omega), Int.toNat_natCast, p8, p10]
  by_cases h10 : σC.1 8 s = 10
  · obtain ⟨τ1, m1, m2⟩ := g_ctxCall h (s := s) hn
    have e : ∀ P : Prop, (LedB σC τ n s t = true ↔ P) → ∀ [Decidable P], b01 (LedB σC τ n s t = true) = b01 P := fun P hP _ => by
      by_cases hp : P
      · rw [b01_t hp, b01_t (hP.mpr hp)]
      · rw [b01_f hp, b01_f (fun z => hp (hP.mp z))]
    have eL : LedB σC τ n s t = true ↔ (τ.1 13 t = σC.1 11 s ∧ τ.1 14 t = call1 τ n s ∧ τ.1 15 t = call2 τ n) := by
      rw [LedB_iff]
      unfold Led
      constructor
      · rintro (z | z)
        · exact z.2
        · omega
      · intro z; exact Or.inl ⟨h10, z⟩
    rw [if_pos h10, m1, bind_s, ck_pos (by omega), ck_pos (by omega), Int.toNat_natCast, m2.1, m2.2.1, m2.2.2.1 13 t (by omega), m2.2.2.1 14 t (by omega), m2.2.2.1 15 t (by omega), m2.2.2.1 11 s (by omega), p11, e _ eL]
    refine ⟨τ1, ?_, OT_LO m2, m2.2.2.1 0 36 (by decide)⟩
    by_cases h1 : τ.1 13 t = σC.1 11 s
    · rw [if_pos h1, ck_pos (by omega)]
      by_cases h2 : τ.1 14 t = call1 τ n s
      · rw [if_pos h2, ck_pos (by omega)]
        by_cases h3 : τ.1 15 t = call2 τ n
        · rw [if_pos h3, b01_t ⟨h1, h2, h3⟩]
        · rw [if_neg h3, b01_f (fun z => h3 z.2.2)]
      · rw [if_neg h2, b01_f (fun z => h2 z.2.1)]
    · rw [if_neg h1, b01_f (fun z => h1 z.1)]
  · have hk9 : σC.1 8 s = 9 := by omega
    obtain ⟨-, -, -, -, o5, -⟩ := PR_okS h.1 hs
    have hb := o5 (by omega)
    rw [if_neg h10, ck_pos (by omega), ck_pos (by omega), show Int.toNat (8 * (n : Int) + σC.1 10 s) = 8 * n + Int.toNat (σC.1 10 s) by omega]
    obtain ⟨τ', q1, q2, q3⟩ := g_isLed_aux ho (σC := σC) (τ0 := τ) (n := n) (s := s) (t := t) (N := Int.toNat (τ.1 0 29)) (bits := τ.2 16 (8 * n + Int.toNat (σC.1 10 s))) hs hk9 rfl (by omega) hn ht (Int.toNat (τ.1 0 29)) 2000 0 τ h LO.rf rfl (by omega) (by omega)
    rw [show ((0 : Nat) : Int) = 0 from rfl] at q3
    refine ⟨τ', ?_, q1, q2⟩
    have eL : LedB σC τ n s t = true ↔ ∃ y, y < Int.toNat (τ.1 0 29) ∧ LedY σC τ n s t y = true := by
      unfold LedB
      rw [if_neg h10, Bool.and_eq_true, exB_iff, decide_eq_true_eq]
      exact ⟨fun z => z.2, fun z => ⟨hk9, z⟩⟩
    rcases q3 with ⟨q3, y, y1, y2⟩ | ⟨q3, q4⟩
    · rw [q3, b01_t (eL.mpr ⟨y, y1.2, y2⟩)]
    · rw [q3, b01_f (fun z => by obtain ⟨y, y1, y2⟩ := eL.mp z; exact q4 y (by omega) y2)]
/-! how many lead to a NODE, and which one is the last -/
def mOf (τ : Mm) (k : Nat) : Nat := Int.toNat (τ.1 13 k)
def ldP (σC τ : Mm) (k t : Nat) : Nat → Nat
  | 0 => 0
  | p + 1 => ldP σC τ k t p + if LedB σC τ k (ln σC (mOf τ k) p) t then 1 else 0
def lenOf (σC τ : Mm) (k : Nat) : Nat := Int.toNat (σC.1 6 (mOf τ k))
def ldN (σC τ : Mm) (t : Nat) : Nat → Nat
  | 0 => 0
  | k + 1 => ldN σC τ t k + ldP σC τ k t (lenOf σC τ k)
def lrN (σC τ : Mm) (t : Nat) : Nat → Nat
  | 0 => 0
  | k + 1 => if 0 < ldP σC τ k t (lenOf σC τ k) then k else lrN σC τ t k
theorem ldP_le (σC τ : Mm) (k t : Nat) : ∀ p, ldP σC τ k t p ≤ p
  | 0 => Nat.le_refl _
  | p + 1 => by
    have := ldP_le σC τ k t p
    show ldP σC τ k t p + _ ≤ p + 1
    split <;> omega
theorem ldP_mono (σC τ : Mm) (k t : Nat) {q : Nat} : ∀ p, q ≤ p → ldP σC τ k t q ≤ ldP σC τ k t p
  | 0, h => by
    obtain rfl : q = 0 := by omega
    exact Nat.le_refl _
  | p + 1, h => by
    by_cases e : q = p + 1
    · rw [e]; exact Nat.le_refl _
    · have := ldP_mono σC τ k t (q := q) p (by omega)
      show ldP σC τ k t q ≤ ldP σC τ k t p + _
      omega
theorem lenOf_le {o : Nat} {σC τ : Mm} (h : RF o σC τ) {k : Nat} (hk : (k : Int) < τ.1 0 24) : lenOf σC τ k ≤ 90 ∧ ((lenOf σC τ k : Nat) : Int) = σC.1 6 (mOf τ k) ∧ ((mOf τ k : Nat) : Int) = τ.1 13 k ∧ ((mOf τ k : Nat) : Int) < σC.1 1 1 := by
  obtain ⟨-, n3, -⟩ := h.2.2.1 k hk
  have h11 := h.1.1.2.1
  have h12 := h.1.1.2.2.1
  have hm : ((mOf τ k : Nat) : Int) = τ.1 13 k := by unfold mOf; omega
  obtain ⟨q1, -⟩ := h.1.2.2.2.2.1 (mOf τ k) (by omega)
  have hl : ((lenOf σC τ k : Nat) : Int) = σC.1 6 (mOf τ k) := by unfold lenOf; omega
  exact ⟨by omega, hl, hm, by omega⟩
theorem ldN_le {o : Nat} {σC τ : Mm} (h : RF o σC τ) (t : Nat) : ∀ k : Nat, (k : Int) ≤ τ.1 0 24 → ldN σC τ t k ≤ 90 * k
  | 0, _ => Nat.le_refl _
  | k + 1, hk => by
    have := ldN_le h t k (by omega)
    have h1 := ldP_le σC τ k t (lenOf σC τ k)
    have h2 := (lenOf_le h (k := k) (by omega)).1
    show ldN σC τ t k + _ ≤ 90 * (k + 1)
    omega
/-- an only leader has a smaller number -/
theorem lr_lt {o : Nat} {σC τ : Mm} (h : RF o σC τ) (hO : Org σC τ) {t K : Nat} (h0 : 0 < t) (hK : τ.1 0 24 = K) (ht : t < K) (h1 : ldN σC τ t K = 1) : lrN σC τ t K < t := by
  obtain ⟨k, s, q1, q2, q3, q4⟩ := hO t h0 (by omega)
  have hkK : k < K := by omega
  obtain ⟨l1, l2, l3, l4⟩ := lenOf_le h (k := k) (by omega)
  obtain ⟨-, w3, w4, w5, -⟩ := h.1.2.2.2.2.2.1 s q2
  have hm : Int.toNat (σC.1 13 s) = mOf τ k := by unfold mOf; rw [q3]
  rw [hm] at w4 w5
  have hln : ln σC (mOf τ k) (Int.toNat (σC.1 14 s)) = s := by unfold ln; rw [w5]; omega
  have hpos : 0 < ldP σC τ k t (lenOf σC τ k) := by
    have h2 : ldP σC τ k t (Int.toNat (σC.1 14 s) + 1) ≤ ldP σC τ k t (lenOf σC τ k) := ldP_mono _ _ _ _ _ (by omega)
    have h3 : ldP σC τ k t (Int.toNat (σC.1 14 s) + 1) = ldP σC τ k t (Int.toNat (σC.1 14 s)) + 1 := by
      show _ + (if LedB σC τ k (ln σC (mOf τ k) (Int.toNat (σC.1 14 s))) t then 1 else 0) = _
      rw [hln, if_pos (LedB_iff.mpr q4)]
    omega
  have key : ∀ j, k + 1 ≤ j → 1 ≤ ldN σC τ t j ∧ (ldN σC τ t j ≤ 1 → lrN σC τ t j = k) := by
    intro j
    induction j with
    | zero => intro z; omega
    | succ j ih =>
      intro z
      by_cases e : j = k
      · subst e
        refine ⟨by show 1 ≤ ldN σC τ t j + ldP σC τ j t (lenOf σC τ j); omega, fun _ => ?_⟩
        show (if 0 < ldP σC τ j t (lenOf σC τ j) then j else lrN σC τ t j) = j
        rw [if_pos hpos]
      · obtain ⟨i1, i2⟩ := ih (by omega)
        refine ⟨by show 1 ≤ ldN σC τ t j + ldP σC τ j t (lenOf σC τ j); omega, fun w => ?_⟩
        have w' : ldN σC τ t j + ldP σC τ j t (lenOf σC τ j) ≤ 1 := w
        show (if 0 < ldP σC τ j t (lenOf σC τ j) then j else lrN σC τ t j) = k
        rw [if_neg (by omega)]
        exact i2 (by omega)
  have := (key K (by omega)).2 (by omega)
  omega
def onB (σC τ : Mm) (K : Nat) : Nat → Nat → Bool
  | 0, _ => false
  | f + 1, n => if n = 0 then decide (ldN σC τ 0 K = 0) else decide (ldN σC τ n K = 1) && onB σC τ K f (lrN σC τ n K)
theorem onB_st {o : Nat} {σC τ : Mm} (h : RF o σC τ) (hO : Org σC τ) {K : Nat} (hK : τ.1 0 24 = K) : ∀ (n f g : Nat), n < K → n < f → n < g → onB σC τ K f n = onB σC τ K g n := by
  intro n
  induction n using Nat.strongRecOn with
  | ind n ih =>
    intro f g hn hf hg
    obtain ⟨f, rfl⟩ : ∃ k, f = k + 1 := ⟨f - 1, by omega⟩
    obtain ⟨g, rfl⟩ : ∃ k, g = k + 1 := ⟨g - 1, by omega⟩
    show (if n = 0 then decide (ldN σC τ 0 K = 0) else decide (ldN σC τ n K = 1) && onB σC τ K f (lrN σC τ n K)) = (if n = 0 then decide (ldN σC τ 0 K = 0) else decide (ldN σC τ n K = 1) && onB σC τ K g (lrN σC τ n K))
    by_cases e : n = 0
    · rw [if_pos e, if_pos e]
    · rw [if_neg e, if_neg e]
      by_cases h1 : ldN σC τ n K = 1
      · have hl := lr_lt h hO (by omega) hK hn h1
        rw [ih (lrN σC τ n K) hl f g (by omega) (by omega) (by omega)]
      · simp [h1]
