/-! METHODS begin; OBJECTS are made -/
def PsC (σ σ' : Mm) (t : Nat) (m n : Int) : Prop := (σ'.1 44 0 = t + 1 ∧ σ'.1 45 t = m ∧ σ'.1 46 t = n ∧ σ'.1 47 t = 0 ∧ (∀ v, v < 6 → σ'.1 48 (6 * t + v) = -9) ∧ σ'.1 49 5 = if σ.1 49 5 < t + 1 then (t : Int) + 1 else σ.1 49 5) ∧ (∀ a i, ¬ (a = 44 ∧ i = 0) → ¬ ((a = 45 ∨ a = 46 ∨ a = 47) ∧ i = t) → ¬ (a = 48 ∧ 6 * t ≤ i ∧ i < 6 * t + 6) → ¬ (a = 49 ∧ i = 5) → σ'.1 a i = σ.1 a i) ∧ σ'.2 = σ.2
def PsM (σ σ' : Mm) (t : Nat) (n : Int) : Prop := (σ'.1 0 52 = t + 1 ∧ σ'.1 26 t = n ∧ σ'.1 27 t = 0 ∧ (∀ v, v < 6 → σ'.1 28 (6 * t + v) = -1) ∧ σ'.1 0 40 = if σ.1 0 40 < t + 1 then (t : Int) + 1 else σ.1 0 40) ∧ (∀ a i, ¬ (a = 0 ∧ (i = 52 ∨ i = 40)) → ¬ ((a = 26 ∨ a = 27) ∧ i = t) → ¬ (a = 28 ∧ 6 * t ≤ i ∧ i < 6 * t + 6) → σ'.1 a i = σ.1 a i) ∧ σ'.2 = σ.2
theorem e_push32 {t : Nat} (ht : t < 25) : ∀ (k f v : Nat) (σ : Mm), σ.1 44 0 = t → v + k = 6 → k < f → ∃ σ', f_X1_push_32 f v σ = some σ' ∧ σ'.1 44 0 = t + 1 ∧ (∀ b, 6 * t + v ≤ b → b < 6 * t + 6 → σ'.1 48 b = -9) ∧ (∀ a i, ¬ (a = 44 ∧ i = 0) → ¬ (a = 48 ∧ 6 * t + v ≤ i ∧ i < 6 * t + 6) → σ'.1 a i = σ.1 a i) ∧ σ'.2 = σ.2 := by
  intro k
  induction k with
  | zero =>
    intro f v σ h hv hf
    obtain ⟨f, rfl⟩ : ∃ g, f = g + 1 := ⟨f - 1, by omega⟩
    rw [f_X1_push_32, if_pos (by omega), ck_pos (by omega)]
    exact ⟨_, rfl, by rw [stI_1, if_pos ⟨rfl, rfl⟩, h], fun b q1 q2 => by omega, fun a i q1 _ => by rw [stI_1, if_neg q1], rfl⟩
  | succ k ih =>
    intro f v σ h hv hf
    obtain ⟨f, rfl⟩ : ∃ g, f = g + 1 := ⟨f - 1, by omega⟩
    have cc : (v : Int) + 1 = ((v + 1 : Nat) : Int) := by omega
    rw [f_X1_push_32, if_neg (by omega), ck_pos (by omega), ck_pos (by omega), cc, show Int.toNat (σ.1 44 0 * 6 + v) = 6 * t + v by omega]
    obtain ⟨σ', w1, w2, w3, w4, w5⟩ := ih f (v + 1) (stI σ 48 (6 * t + v) (-9)) (by rw [stI_1, if_neg (by omega)]; exact h) (by omega) (by omega)
    refine ⟨σ', w1, w2, fun b q1 q2 => ?_, fun a i q1 q2 => ?_, w5⟩
    · by_cases hb : b = 6 * t + v
      · rw [w4 48 b (by omega) (by omega), stI_1, if_pos ⟨rfl, hb⟩]
      · exact w3 b (by omega) q2
    · rw [w4 a i q1 (by omega), stI_1, if_neg (by omega)]
theorem g_begin33 {t : Nat} (ht : t < 25) : ∀ (k f v : Nat) (σ : Mm), σ.1 0 52 = t → v + k = 6 → k < f → ∃ σ', f_X7_begins_33 f v σ = some (1, σ') ∧ σ'.1 0 52 = t + 1 ∧ (σ'.1 0 40 = if σ.1 0 40 < t + 1 then (t : Int) + 1 else σ.1 0 40) ∧ (∀ b, 6 * t + v ≤ b → b < 6 * t + 6 → σ'.1 28 b = -1) ∧ (∀ a i, ¬ (a = 0 ∧ (i = 52 ∨ i = 40)) → ¬ (a = 28 ∧ 6 * t + v ≤ i ∧ i < 6 * t + 6) → σ'.1 a i = σ.1 a i) ∧ σ'.2 = σ.2 := by
  intro k
  induction k with
  | zero =>
    intro f v σ h hv hf
    obtain ⟨f, rfl⟩ : ∃ g, f = g + 1 := ⟨f - 1, by omega⟩
    have e52 : (stI σ 0 52 (σ.1 0 52 + 1)).1 0 52 = t + 1 := by rw [stI_1, if_pos ⟨rfl, rfl⟩, h]
    have e40 : (stI σ 0 52 (σ.1 0 52 + 1)).1 0 40 = σ.1 0 40 := by rw [stI_1, if_neg (by omega)]
    rw [f_X7_begins_33, if_pos (by omega), ck_pos (by omega), e52, e40, bind_s, bind_s]
    by_cases hq : (t : Int) + 1 ≤ σ.1 0 40
    · rw [if_pos hq]
      refine ⟨_, rfl, ?_, ?_, fun b q1 q2 => by omega, fun a i q1 _ => ?_, rfl⟩
      · rw [stI_1, if_neg (by omega), e52]
      · rw [stI_1, if_pos ⟨rfl, rfl⟩, if_neg (by omega)]
      · rw [stI_1, if_neg (by omega), stI_1, if_neg (by omega)]
    · rw [if_neg hq]
      refine ⟨_, rfl, ?_, ?_, fun b q1 q2 => by omega, fun a i q1 _ => ?_, rfl⟩
      · rw [stI_1, if_neg (by omega), e52]
      · rw [stI_1, if_pos ⟨rfl, rfl⟩, if_pos (by omega)]
      · rw [stI_1, if_neg (by omega), stI_1, if_neg (by omega)]
  | succ k ih =>
    intro f v σ h hv hf
    obtain ⟨f, rfl⟩ : ∃ g, f = g + 1 := ⟨f - 1, by omega⟩
    have cc : (v : Int) + 1 = ((v + 1 : Nat) : Int) := by omega
    rw [f_X7_begins_33, if_neg (by omega), ck_pos (by omega), ck_pos (by omega), cc, show Int.toNat (6 * σ.1 0 52 + v) = 6 * t + v by omega]
    obtain ⟨σ', w1, w2, w2', w3, w4, w5⟩ := ih f (v + 1) (stI σ 28 (6 * t + v) (-1)) (by rw [stI_1, if_neg (by omega)]; exact h) (by omega) (by omega)
    refine ⟨σ', w1, w2, ?_, fun b q1 q2 => ?_, fun a i q1 q2 => ?_, w5⟩
    · exact w2'
    · by_cases hb : b = 6 * t + v
      · rw [w4 28 b (by omega) (by omega), stI_1, if_pos ⟨rfl, hb⟩]
      · exact w3 b (by omega) q2
    · rw [w4 a i q1 (by omega), stI_1, if_neg (by omega)]
theorem g_begins {σ : Mm} {t : Nat} (h : σ.1 0 52 = t) (ht : t < 25) (n : Int) : ∃ σ', f_X7_begins n σ = some (1, σ') ∧ PsM σ σ' t n := by
  have e1 : Int.toNat (σ.1 0 52) = t := by omega
  have e2 : (stI σ 26 t n).1 0 52 = t := by rw [stI_1, if_neg (by omega)]; exact h
  obtain ⟨σ', w1, w2, w2', w3, w4, w5⟩ := g_begin33 ht 6 2000 0 (stI (stI σ 26 t n) 27 t 0) (by rw [stI_1, if_neg (by omega)]; exact e2) (by omega) (by omega)
  unfold f_X7_begins
  rw [if_neg (by omega), ck_pos (by omega), e1, e2, ck_pos (by omega), Int.toNat_natCast, bind_s]
  refine ⟨σ', w1, ⟨w2, ?_, ?_, fun v hv => w3 _ (by omega) (by omega), ?_⟩, fun a i q1 q2 q3 => ?_, w5⟩
  · rw [w4 26 t (by omega) (by omega), stI_1, if_neg (by omega), stI_1, if_pos ⟨rfl, rfl⟩]
  · rw [w4 27 t (by omega) (by omega), stI_1, if_pos ⟨rfl, rfl⟩]
  · exact w2'
  · rw [w4 a i q1 (by omega), stI_1, if_neg (by omega), stI_1, if_neg (by omega)]
theorem e_push {σ : Mm} {t : Nat} (h : σ.1 44 0 = t) (ht : t < 25) (m n : Int) : ∃ r, f_X1_push m n σ = some r ∧ PsC σ (stI r 49 5 (if r.1 49 5 < r.1 44 0 then r.1 44 0 else r.1 49 5)) t m n := by
  have e1 : Int.toNat (σ.1 44 0) = t := by omega
  have e2 : (stI σ 45 t m).1 44 0 = t := by rw [stI_1, if_neg (by omega)]; exact h
  have e3 : (stI (stI σ 45 t m) 46 t n).1 44 0 = t := by rw [stI_1, if_neg (by omega)]; exact e2
  obtain ⟨σ', w1, w2, w3, w4, w5⟩ := e_push32 ht 6 2000 0 (stI (stI (stI σ 45 t m) 46 t n) 47 t 0) (by rw [stI_1, if_neg (by omega)]; exact e3) (by omega) (by omega)
  unfold f_X1_push
  rw [ck_pos (by omega), e1, e2, ck_pos (by omega), Int.toNat_natCast, bind_s, e3, ck_pos (by omega), Int.toNat_natCast]
  have e5 : σ'.1 49 5 = σ.1 49 5 := by rw [w4 49 5 (by omega) (by omega), stI_1, if_neg (by omega), stI_1, if_neg (by omega), stI_1, if_neg (by omega)]
  refine ⟨σ', w1, ⟨?_, ?_, ?_, ?_, fun v hv => ?_, ?_⟩, fun a i q1 q2 q3 q4 => ?_, w5⟩
  · rw [stI_1, if_neg (by omega)]; exact w2
  · rw [stI_1, if_neg (by omega), w4 45 t (by omega) (by omega), stI_1, if_neg (by omega), stI_1, if_neg (by omega), stI_1, if_pos ⟨rfl, rfl⟩]
  · rw [stI_1, if_neg (by omega), w4 46 t (by omega) (by omega), stI_1, if_neg (by omega), stI_1, if_pos ⟨rfl, rfl⟩]
  · rw [stI_1, if_neg (by omega), w4 47 t (by omega) (by omega), stI_1, if_pos ⟨rfl, rfl⟩]
  · rw [stI_1, if_neg (by omega)]; exact w3 _ (by omega) (by omega)
  · rw [stI_1, if_pos ⟨rfl, rfl⟩, w2, e5]
  · rw [stI_1, if_neg (by omega), w4 a i q1 (by omega), stI_1, if_neg (by omega), stI_1, if_neg (by omega), stI_1, if_neg (by omega)]
theorem RR_push {A B σC σM σC' σM' : Mm} {t : Nat} {e d H : Int} (h : RR A B σC σM t e d H) (ht : t < 25) {n : Nat} (hn : (n : Int) < B.1 0 24) (hch : ∀ f, f + 1 = t → FC A B (σM.1 27 f) (nd σM f) n) (hc : PsC σC σC' t (B.1 13 n) n) (hm : PsM σM σM' t n) : RR A B σC' σM' (t + 1) e d H := by
  obtain ⟨⟨cx, mx⟩, ⟨k1, k2, k3⟩, ⟨t0, t1, t2, t3, t4, t5, t6, t7⟩, hA, hV, hC, hO, hS, hG⟩ := h
  obtain ⟨⟨c1, c2, c3, c4, c5, c6⟩, c7, c8⟩ := hc
  obtain ⟨⟨m1, m2, m3, m5, m6⟩, m7, m8⟩ := hm
  have r : ∀ k, 21 ≤ k → k ≤ 25 ∨ k = 29 → σM'.1 k = σM.1 k := fun k q1 q2 => by funext i; exact m7 k i (by omega) (by omega) (by omega)
  have rc : ∀ k, 50 ≤ k → σC'.1 k = σC.1 k := fun k q1 => by funext i; exact c7 k i (by omega) (by omega) (by omega) (by omega)
  have z : ∀ j, j ≠ 52 → j ≠ 40 → σM'.1 0 j = σM.1 0 j := fun j q1 q2 => m7 0 j (by omega) (by omega) (by omega)
  have y : ∀ j, j ≠ 5 → σC'.1 49 j = σC.1 49 j := fun j q1 => c7 49 j (by omega) (by omega) (by omega) (by omega)
  have nn : nd σM' t = n := by unfold nd; rw [m2]; exact Int.toNat_natCast n
  have no : ∀ f, f < t → nd σM' f = nd σM f := fun f hf => by unfold nd; rw [m7 26 f (by omega) (by omega) (by omega)]
  refine ⟨⟨cx.tr ⟨fun k i q1 q2 => c7 k i (by omega) (by omega) (by omega) (by omega), c8⟩, mx.tr ⟨fun k i q => m7 k i (by omega) (by omega) (by omega), m8⟩⟩, ⟨by omega, by omega, by omega⟩, ?_, fun f hf => ?_, fun f v hf hv => ?_, fun f hf => ?_, fun i hi => ?_, fun i p hi hp => ?_, fun g hg => ?_⟩
  · unfold RT
    rw [rc 50 (by omega), y 0 (by omega), y 1 (by omega), y 2 (by omega), y 3 (by omega), y 4 (by omega), y 6 (by omega), y 7 (by omega), y 8 (by omega), z 46 (by omega) (by omega), z 38 (by omega) (by omega), z 39 (by omega) (by omega), z 41 (by omega) (by omega), z 42 (by omega) (by omega), z 43 (by omega) (by omega), z 44 (by omega) (by omega), z 45 (by omega) (by omega), c6, m6, t6, c7 43 7 (by omega) (by omega) (by omega) (by omega)]
    exact ⟨t0, t1, t2, t3, t4, t5, rfl, t7⟩
  · by_cases q : f = t
    · subst q
      unfold FA
      rw [nn, c2, c3, c4, m2, m3]
      exact ⟨rfl, ⟨by omega, hn⟩, rfl, rfl, by omega⟩
    · unfold FA
      rw [no f (by omega), c7 45 f (by omega) (by omega) (by omega) (by omega), c7 46 f (by omega) (by omega) (by omega) (by omega), c7 47 f (by omega) (by omega) (by omega) (by omega), m7 26 f (by omega) (by omega) (by omega), m7 27 f (by omega) (by omega) (by omega)]
      exact hA f (by omega)
  · by_cases q : f = t
    · subst q
      unfold FV
      rw [c5 v hv, m5 v hv, z 46 (by omega) (by omega)]
      exact ⟨⟨by omega, rfl⟩, fun w => by omega⟩
    · unfold FV Snd
      rw [no f (by omega), c7 48 _ (by omega) (by omega) (by omega) (by omega), m7 28 _ (by omega) (by omega) (by omega), z 46 (by omega) (by omega), r 22 (by omega) (by omega)]
      exact hV f v (by omega) hv
  · rw [no f (by omega), m7 27 f (by omega) (by omega) (by omega)]
    by_cases q : f + 1 = t
    · rw [q, nn]; exact hch f q
    · rw [no (f + 1) (by omega)]; exact hC f (by omega)
  · rw [z 46 (by omega) (by omega)] at hi
    unfold OB
    rw [rc 51 (by omega), rc 52 (by omega), rc 53 (by omega), r 21 (by omega) (by omega), r 22 (by omega) (by omega), r 23 (by omega) (by omega), r 29 (by omega) (by omega)]
    exact hO i hi
  · rw [z 46 (by omega) (by omega)] at hi
    unfold OS Snd
    rw [rc 54 (by omega), r 21 (by omega) (by omega), r 22 (by omega) (by omega), r 24 (by omega) (by omega), z 46 (by omega) (by omega)]
    exact hS i p hi hp
  · unfold GB Snd
    rw [rc 55 (by omega), r 22 (by omega) (by omega), r 25 (by omega) (by omega), z 46 (by omega) (by omega)]
    exact hG g hg
def AdC (σ σ' : Mm) (o : Nat) (s x n : Int) : Prop := (σ'.1 50 1 = o + 1 ∧ σ'.1 49 2 = o + 1 ∧ σ'.1 51 o = s ∧ σ'.1 52 o = x ∧ σ'.1 53 o = n ∧ ∀ p, p < 5 → σ'.1 54 (5 * o + p) = -9) ∧ (∀ a i, ¬ (a = 50 ∧ i = 1) → ¬ (a = 49 ∧ i = 2) → ¬ ((a = 51 ∨ a = 52 ∨ a = 53) ∧ i = o) → ¬ (a = 54 ∧ 5 * o ≤ i ∧ i < 5 * o + 5) → σ'.1 a i = σ.1 a i) ∧ σ'.2 = σ.2
def AdM (σ σ' : Mm) (o : Nat) (s x n c : Int) : Prop := (σ'.1 0 46 = o + 1 ∧ σ'.1 21 o = s ∧ σ'.1 22 o = x ∧ σ'.1 23 o = n ∧ σ'.1 29 o = c ∧ ∀ p, p < 5 → σ'.1 24 (5 * o + p) = -1) ∧ (∀ a i, ¬ (a = 0 ∧ i = 46) → ¬ ((a = 21 ∨ a = 22 ∨ a = 23 ∨ a = 29) ∧ i = o) → ¬ (a = 24 ∧ 5 * o ≤ i ∧ i < 5 * o + 5) → σ'.1 a i = σ.1 a i) ∧ σ'.2 = σ.2
theorem e_add46 {o : Nat} (ho : o < 300) : ∀ (k f v : Nat) (σ : Mm), σ.1 50 1 = o → v + k = 5 → k < f → ∃ σ', f_X2_add_46 f o v σ = some ((o : Int), σ') ∧ σ'.1 50 1 = o + 1 ∧ (∀ b, 5 * o + v ≤ b → b < 5 * o + 5 → σ'.1 54 b = -9) ∧ (∀ a i, ¬ (a = 50 ∧ i = 1) → ¬ (a = 54 ∧ 5 * o + v ≤ i ∧ i < 5 * o + 5) → σ'.1 a i = σ.1 a i) ∧ σ'.2 = σ.2 := by
  intro k
  induction k with
  | zero =>
    intro f v σ h hv hf
    obtain ⟨f, rfl⟩ : ∃ g, f = g + 1 := ⟨f - 1, by omega⟩
    rw [f_X2_add_46, if_pos (by omega), ck_pos (by omega)]
    exact ⟨_, rfl, by rw [stI_1, if_pos ⟨rfl, rfl⟩, h], fun b q1 q2 => by omega, fun a i q1 _ => by rw [stI_1, if_neg q1], rfl⟩
  | succ k ih =>
    intro f v σ h hv hf
    obtain ⟨f, rfl⟩ : ∃ g, f = g + 1 := ⟨f - 1, by omega⟩
    have cc : (v : Int) + 1 = ((v + 1 : Nat) : Int) := by omega
    rw [f_X2_add_46, if_neg (by omega), ck_pos (by omega), ck_pos (by omega), cc, show Int.toNat ((o : Int) * 5 + v) = 5 * o + v by omega]
    obtain ⟨σ', w1, w2, w3, w4, w5⟩ := ih f (v + 1) (stI σ 54 (5 * o + v) (-9)) (by rw [stI_1, if_neg (by omega)]; exact h) (by omega) (by omega)
    refine ⟨σ', w1, w2, fun b q1 q2 => ?_, fun a i q1 q2 => ?_, w5⟩
    · by_cases hb : b = 5 * o + v
      · rw [w4 54 b (by omega) (by omega), stI_1, if_pos ⟨rfl, hb⟩]
      · exact w3 b (by omega) q2
    · rw [w4 a i q1 (by omega), stI_1, if_neg (by omega)]
theorem g_make79 {o : Nat} (ho : o < 300) (x1 : Int) : ∀ (k f v : Nat) (σ : Mm), σ.1 0 46 = o → v + k = 5 → k < f → ∃ σ', f_X7_makes_79 f x1 v σ = (f_X7_becomes x1 o σ').bind (fun r6 => some r6) ∧ σ'.1 0 46 = o + 1 ∧ (∀ b, 5 * o + v ≤ b → b < 5 * o + 5 → σ'.1 24 b = -1) ∧ (∀ a i, ¬ (a = 0 ∧ i = 46) → ¬ (a = 24 ∧ 5 * o + v ≤ i ∧ i < 5 * o + 5) → σ'.1 a i = σ.1 a i) ∧ σ'.2 = σ.2 := by
  intro k
  induction k with
  | zero =>
    intro f v σ h hv hf
    obtain ⟨f, rfl⟩ : ∃ g, f = g + 1 := ⟨f - 1, by omega⟩
    have e : (stI σ 0 46 (σ.1 0 46 + 1)).1 0 46 = o + 1 := by rw [stI_1, if_pos ⟨rfl, rfl⟩, h]
    rw [f_X7_makes_79, if_pos (by omega), ck_pos (by omega), e, ck_pos (by omega), show (o : Int) + 1 - 1 = o by omega]
    exact ⟨_, rfl, e, fun b q1 q2 => by omega, fun a i q1 _ => by rw [stI_1, if_neg q1], rfl⟩
  | succ k ih =>
    intro f v σ h hv hf
    obtain ⟨f, rfl⟩ : ∃ g, f = g + 1 := ⟨f - 1, by omega⟩
    have cc : (v : Int) + 1 = ((v + 1 : Nat) : Int) := by omega
    rw [f_X7_makes_79, if_neg (by omega), ck_pos (by omega), ck_pos (by omega), cc, show Int.toNat (5 * σ.1 0 46 + v) = 5 * o + v by omega]
    obtain ⟨σ', w1, w2, w3, w4, w5⟩ := ih f (v + 1) (stI σ 24 (5 * o + v) (-1)) (by rw [stI_1, if_neg (by omega)]; exact h) (by omega) (by omega)
    refine ⟨σ', w1, w2, fun b q1 q2 => ?_, fun a i q1 q2 => ?_, w5⟩
    · by_cases hb : b = 5 * o + v
      · rw [w4 24 b (by omega) (by omega), stI_1, if_pos ⟨rfl, hb⟩]
      · exact w3 b (by omega) q2
    · rw [w4 a i q1 (by omega), stI_1, if_neg (by omega)]
theorem e_add {σ : Mm} {o : Nat} (h : σ.1 50 1 = o) (ho : o < 300) (s x n : Int) : ∃ r, f_X2_add s x n σ = some ((o : Int), r) ∧ AdC σ (stI r 49 2 (r.1 50 1)) o s x n := by
  obtain ⟨σ', w1, w2, w3, w4, w5⟩ := e_add46 ho 5 2000 0 (stI (stI (stI σ 51 o s) 52 o x) 53 o n) (by rw [stI_1, if_neg (by omega), stI_1, if_neg (by omega), stI_1, if_neg (by omega)]; exact h) (by omega) (by omega)
  unfold f_X2_add
  rw [h, if_pos (by omega), ck_pos (by omega), ck_pos (by omega), Int.toNat_natCast, bind_s, ck_pos (by omega)]
  refine ⟨σ', w1, ⟨?_, ?_, ?_, ?_, ?_, fun v hv => ?_⟩, fun a i q1 q2 q3 q4 => ?_, w5⟩
  · rw [stI_1, if_neg (by omega)]; exact w2
  · rw [stI_1, if_pos ⟨rfl, rfl⟩]; exact w2
  · rw [stI_1, if_neg (by omega), w4 51 o (by omega) (by omega), stI_1, if_neg (by omega), stI_1, if_neg (by omega), stI_1, if_pos ⟨rfl, rfl⟩]
  · rw [stI_1, if_neg (by omega), w4 52 o (by omega) (by omega), stI_1, if_neg (by omega), stI_1, if_pos ⟨rfl, rfl⟩]
  · rw [stI_1, if_neg (by omega), w4 53 o (by omega) (by omega), stI_1, if_pos ⟨rfl, rfl⟩]
  · rw [stI_1, if_neg (by omega)]; exact w3 _ (by omega) (by omega)
  · rw [stI_1, if_neg (by omega), w4 a i q1 (by omega), stI_1, if_neg (by omega), stI_1, if_neg (by omega), stI_1, if_neg (by omega)]
theorem RR_add {A B σC σM σC' σM' : Mm} {t : Nat} {e d H : Int} (h : RR A B σC σM t e d H) {o s x : Nat} {n : Int} (ho : σM.1 0 46 = o) (hs : (s : Int) < A.1 1 2) (hk : A.1 8 s ≤ 1) (hx : (x : Int) < B.1 0 29) (hxs : B.1 17 x = s) (hc : AdC σC σC' o s x n) (hm : AdM σM σM' o s x n (mcl A s : Nat)) : RR A B σC' σM' t e (d + 1) H := by
  obtain ⟨⟨cx, mx⟩, ⟨k1, k2, k3⟩, ⟨⟨t0, t0', t0''⟩, t1, t2, t3, t4, t5, t6, t7, t8, ⟨t9, t10, t11⟩, t12⟩, hA, hV, hC, hO, hS, hG⟩ := h
  obtain ⟨⟨c1, c2, c3, c4, c5, c6⟩, c7, c8⟩ := hc
  obtain ⟨⟨m1, m2, m3, m4, m5, m6⟩, m7, m8⟩ := hm
  have r : ∀ k, 25 ≤ k → k ≤ 28 → σM'.1 k = σM.1 k := fun k q1 q2 => by funext i; exact m7 k i (by omega) (by omega) (by omega)
  have rc : ∀ k, (44 ≤ k ∧ k ≤ 48) ∨ k = 55 → σC'.1 k = σC.1 k := fun k q1 => by funext i; exact c7 k i (by omega) (by omega) (by omega) (by omega)
  have z : ∀ j, j ≠ 46 → σM'.1 0 j = σM.1 0 j := fun j q1 => m7 0 j (by omega) (by omega) (by omega)
  have y : ∀ j, j ≠ 2 → σC'.1 49 j = σC.1 49 j := fun j q1 => c7 49 j (by omega) (by omega) (by omega) (by omega)
  have nf : ∀ f, nd σM' f = nd σM f := fun f => by unfold nd; rw [r 26 (by omega) (by omega)]
  have tg : ∀ {c m : Int} {bits : Int64}, thg (σM.1 0 46) c m ∧ Snd σM bits m → thg (σM'.1 0 46) c m ∧ Snd σM' bits m := fun {c m bits} hq => by
    refine ⟨thg_mono hq.1 (by omega), fun hm0 => ?_⟩
    have := hq.1.1.2
    rw [m7 22 (Int.toNat m) (by omega) (by omega) (by omega)]
    exact hq.2 hm0
  refine ⟨⟨cx.tr ⟨fun k i q1 q2 => c7 k i (by omega) (by omega) (by omega) (by omega), c8⟩, mx.tr ⟨fun k i q => m7 k i (by omega) (by omega) (by omega), m8⟩⟩, ⟨?_, ?_, k3⟩, ?_, fun f hf => ?_, fun f v hf hv => ?_, fun f hf => ?_, fun i hi => ?_, fun i p hi hp => ?_, fun g hg => ?_⟩
  · rw [rc 44 (by omega)]; exact k1
  · rw [z 52 (by omega)]; exact k2
  · unfold RT
    rw [c1, c2, m1, y 0 (by omega), y 1 (by omega), y 3 (by omega), y 4 (by omega), y 5 (by omega), y 6 (by omega), y 7 (by omega), y 8 (by omega), z 38 (by omega), z 39 (by omega), z 40 (by omega), z 41 (by omega), z 42 (by omega), z 43 (by omega), z 44 (by omega), z 45 (by omega), c7 43 7 (by omega) (by omega) (by omega) (by omega)]
    exact ⟨⟨rfl, by omega, by omega⟩, t1, t2, rfl, t4, t5, t6, t7, t8, ⟨t9, t10, by omega⟩, t12⟩
  · unfold FA
    rw [nf, rc 45 (by omega), rc 46 (by omega), rc 47 (by omega), r 26 (by omega) (by omega), r 27 (by omega) (by omega)]
    exact hA f hf
  · unfold FV
    rw [nf, rc 48 (by omega), r 28 (by omega) (by omega)]
    exact tg (hV f v hf hv)
  · rw [nf, nf, r 27 (by omega) (by omega)]
    exact hC f hf
  · by_cases q : i = o
    · subst q
      unfold OB
      rw [c3, c4, c5, m2, m3, m4, m5, Int.toNat_natCast, Int.toNat_natCast]
      exact ⟨⟨rfl, rfl, rfl⟩, ⟨by omega, hs⟩, hk, rfl, ⟨by omega, hx⟩, hxs⟩
    · unfold OB
      rw [c7 51 i (by omega) (by omega) (by omega) (by omega), c7 52 i (by omega) (by omega) (by omega) (by omega), c7 53 i (by omega) (by omega) (by omega) (by omega), m7 21 i (by omega) (by omega) (by omega), m7 22 i (by omega) (by omega) (by omega), m7 23 i (by omega) (by omega) (by omega), m7 29 i (by omega) (by omega) (by omega)]
      exact hO i (by omega)
  · by_cases q : i = o
    · subst q
      unfold OS
      rw [c6 p hp, m6 p hp]
      exact ⟨⟨by omega, rfl⟩, fun w => by omega⟩
    · unfold OS
      rw [c7 54 _ (by omega) (by omega) (by omega) (by omega), m7 24 _ (by omega) (by omega) (by omega), m7 21 i (by omega) (by omega) (by omega), m7 22 i (by omega) (by omega) (by omega)]
      exact tg (hS i p (by omega) hp)
  · unfold GB
    rw [rc 55 (by omega), r 25 (by omega) (by omega)]
    exact tg (hG g hg)
