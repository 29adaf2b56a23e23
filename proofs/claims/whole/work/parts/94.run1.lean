/-! A RUN -/
def CX (A σ : Mm) : Prop := (∀ k i, k ≤ 43 → ¬ (k = 43 ∧ i = 7) → σ.1 k i = A.1 k i) ∧ σ.2 = A.2
def MX (B τ : Mm) : Prop := (∀ k i, ¬ (21 ≤ k ∨ (k = 0 ∧ (34 = i ∨ 35 = i ∨ 38 ≤ i))) → τ.1 k i = B.1 k i) ∧ τ.2 = B.2
theorem CX.rf {A : Mm} : CX A A := ⟨fun _ _ _ _ => rfl, rfl⟩
theorem MX.rf {A : Mm} : MX A A := ⟨fun _ _ _ => rfl, rfl⟩
theorem CX.tr {A B C : Mm} (h1 : CX A B) (h2 : CX B C) : CX A C := ⟨fun k i q1 q2 => (h2.1 k i q1 q2).trans (h1.1 k i q1 q2), h2.2.trans h1.2⟩
theorem MX.tr {A B C : Mm} (h1 : MX A B) (h2 : MX B C) : MX A C := ⟨fun k i q1 => (h2.1 k i q1).trans (h1.1 k i q1), h2.2.trans h1.2⟩
theorem CX_st {A σ : Mm} {k j : Nat} {v : Int} (h : CX A σ) (hk : 44 ≤ k ∨ (k = 43 ∧ j = 7)) : CX A (stI σ k j v) := ⟨fun a i q1 q2 => by rw [stI_1, if_neg (by omega)]; exact h.1 a i q1 q2, h.2⟩
theorem MX_st {B τ : Mm} {k j : Nat} {v : Int} (h : MX B τ) (hk : 21 ≤ k ∨ (k = 0 ∧ (34 = j ∨ 35 = j ∨ 38 ≤ j))) : MX B (stI τ k j v) := ⟨fun a i q1 => by rw [stI_1, if_neg (by omega)]; exact h.1 a i q1, h.2⟩
theorem CX_row {A σ : Mm} (h : CX A σ) {k : Nat} (hk : k ≤ 42) : σ.1 k = A.1 k := by funext i; exact h.1 k i (by omega) (by omega)
theorem MX_row {B τ : Mm} (h : MX B τ) {k : Nat} (h1 : 1 ≤ k) (h2 : k ≤ 20) : τ.1 k = B.1 k := by funext i; exact h.1 k i (by omega)
theorem CX_KC {A σ : Mm} (h : CX A σ) : KC A σ := ⟨fun k _ q => CX_row h (by omega), fun k _ _ _ => by rw [h.2], h.1 0 4 (by omega) (by omega)⟩
theorem MX_MG {B τ : Mm} (h : MX B τ) : MG B τ := ⟨fun k q1 q2 => ⟨MX_row h q1 q2, by rw [h.2]⟩, fun j q1 _ _ => h.1 0 j (by omega)⟩
theorem FD_run {A B σC σM : Mm} (hS : FDn A B) (cx : CX A σC) (mx : MX B σM) : FDn σC σM := FDn_gen hS (CX_KC cx) (MX_MG mx) (mx.1 0 20 (by omega))
/-- what is held was found -/
def Snd (σM : Mm) (bits : Int64) (m : Int) : Prop := 0 ≤ m → lb bits (Int.toNat (σM.1 22 (Int.toNat m))) = true
def nd (σM : Mm) (f : Nat) : Nat := Int.toNat (σM.1 26 f)
def FV (B σC σM : Mm) (f v : Nat) : Prop := thg (σM.1 0 46) (σC.1 48 (6 * f + v)) (σM.1 28 (6 * f + v)) ∧ Snd σM (B.2 16 (8 * nd σM f + v)) (σM.1 28 (6 * f + v))
def FA (B σC σM : Mm) (f : Nat) : Prop := σC.1 46 f = σM.1 26 f ∧ (0 ≤ σM.1 26 f ∧ σM.1 26 f < B.1 0 24) ∧ σC.1 45 f = B.1 13 (nd σM f) ∧ σC.1 47 f = σM.1 27 f ∧ (0 ≤ σM.1 27 f ∧ σM.1 27 f ≤ 400)
/-- NODE n stands at STEP s, which has led to NODE u -/
def FC (A B : Mm) (x : Int) (n u : Nat) : Prop := ∃ s : Nat, (s : Int) < A.1 1 2 ∧ A.1 13 s = B.1 13 n ∧ x = A.1 14 s + 1 ∧ (A.1 8 s = 9 ∨ A.1 8 s = 10) ∧ JnC A B n s u
def OB (A B σC σM : Mm) (i : Nat) : Prop := (σC.1 51 i = σM.1 21 i ∧ σC.1 52 i = σM.1 22 i ∧ σC.1 53 i = σM.1 23 i) ∧ (0 ≤ σM.1 21 i ∧ σM.1 21 i < A.1 1 2) ∧ A.1 8 (Int.toNat (σM.1 21 i)) ≤ 1 ∧ σM.1 29 i = (mcl A (Int.toNat (σM.1 21 i)) : Nat) ∧ (0 ≤ σM.1 22 i ∧ σM.1 22 i < B.1 0 29) ∧ B.1 17 (Int.toNat (σM.1 22 i)) = σM.1 21 i
def OS (A B σC σM : Mm) (i p : Nat) : Prop := thg (σM.1 0 46) (σC.1 54 (5 * i + p)) (σM.1 24 (5 * i + p)) ∧ Snd σM (B.2 19 (5 * Int.toNat (σM.1 22 i) + if A.1 8 (Int.toNat (σM.1 21 i)) = 1 then 4 else p)) (σM.1 24 (5 * i + p))
def GB (B σC σM : Mm) (g : Nat) : Prop := thg (σM.1 0 46) (σC.1 55 g) (σM.1 25 g) ∧ Snd σM (B.2 20 g) (σM.1 25 g)
def RT (σC σM : Mm) (e d H : Int) : Prop := (σC.1 50 1 = σM.1 0 46 ∧ 0 ≤ σM.1 0 46 ∧ σM.1 0 46 ≤ d) ∧ (σC.1 49 0 = 0 ∧ σM.1 0 38 = 0) ∧ (σC.1 49 1 = e ∧ σM.1 0 39 = e) ∧ σC.1 49 2 = σM.1 0 46 ∧ (σC.1 49 3 = σM.1 0 44 ∧ 0 ≤ σM.1 0 44 ∧ σM.1 0 44 ≤ H) ∧ (σC.1 49 4 = 0 ∧ σM.1 0 45 = 0) ∧ σC.1 49 5 = σM.1 0 40 ∧ σC.1 49 6 = σM.1 0 41 ∧ (σC.1 49 7 = -9 ∧ σM.1 0 42 = -1) ∧ (σC.1 49 8 = σM.1 0 43 ∧ 0 ≤ σM.1 0 43 ∧ σM.1 0 43 ≤ d) ∧ σC.1 43 7 = 1
def RR (A B σC σM : Mm) (t : Nat) (e d H : Int) : Prop := (CX A σC ∧ MX B σM) ∧ (σC.1 44 0 = t ∧ σM.1 0 52 = t ∧ t ≤ 25) ∧ RT σC σM e d H ∧ (∀ f, f < t → FA B σC σM f) ∧ (∀ f v, f < t → v < 6 → FV B σC σM f v) ∧ (∀ f, f + 1 < t → FC A B (σM.1 27 f) (nd σM f) (nd σM (f + 1))) ∧ (∀ i : Nat, (i : Int) < σM.1 0 46 → OB A B σC σM i) ∧ (∀ i p : Nat, (i : Int) < σM.1 0 46 → p < 5 → OS A B σC σM i p) ∧ ∀ g, g < 4 → GB B σC σM g
/-- the run is over -/
def RE (A B σC σM : Mm) : Prop := (CX A σC ∧ MX B σM) ∧ RN σC σM ∧ σC.1 43 7 = 0 ∧ (σM.1 0 52 ≤ 0 ∨ ¬ σM.1 0 38 = 0)
theorem thg_mono {n n' c m : Int} (h : thg n c m) (hn : n ≤ n') : thg n' c m := ⟨⟨h.1.1, by have := h.1.2; omega⟩, h.2⟩
theorem thg_m {n c m : Int} (h : thg n c m) : (c = -9 ↔ m < 0) ∧ (0 ≤ m → c = m) := by
  obtain ⟨⟨h1, h2⟩, h3⟩ := h
  by_cases hm : m < 0
  · rw [if_pos hm] at h3; omega
  · rw [if_neg hm] at h3; omega
/-! the small changes -/
theorem RR_var {A B σC σM : Mm} {t : Nat} {e d H : Int} (h : RR A B σC σM (t + 1) e d H) {v : Nat} (hv : v < 6) {c m : Int} (hc : thg (σM.1 0 46) c m) (hs : Snd σM (B.2 16 (8 * nd σM t + v)) m) : RR A B (stI σC 48 (6 * t + v) c) (stI σM 28 (6 * t + v) m) (t + 1) e d H := by
  obtain ⟨⟨cx, mx⟩, hk, hT, hA, hV, hC, hO, hS, hG⟩ := h
  refine ⟨⟨CX_st cx (by omega), MX_st mx (by omega)⟩, hk, hT, hA, fun f w hf hw => ?_, hC, hO, hS, hG⟩
  by_cases q : 6 * f + w = 6 * t + v
  · obtain ⟨rfl, rfl⟩ : f = t ∧ w = v := by omega
    unfold FV
    rw [show (stI σC 48 (6 * f + w) c).1 48 (6 * f + w) = c from if_pos ⟨rfl, rfl⟩, show (stI σM 28 (6 * f + w) m).1 28 (6 * f + w) = m from if_pos ⟨rfl, rfl⟩]
    exact ⟨hc, hs⟩
  · unfold FV
    rw [show (stI σC 48 (6 * t + v) c).1 48 (6 * f + w) = σC.1 48 (6 * f + w) from if_neg (by omega), show (stI σM 28 (6 * t + v) m).1 28 (6 * f + w) = σM.1 28 (6 * f + w) from if_neg (by omega)]
    exact hV f w hf hw
theorem RR_tally {A B σC σM : Mm} {t : Nat} {e d H : Int} (h : RR A B σC σM t e d H) : RR A B (stI σC 49 3 (σC.1 49 3 + 1)) (stI (stI σM 0 44 (σM.1 0 44 + 1)) 0 45 0) t e d (H + 1) := by
  obtain ⟨⟨cx, mx⟩, hk, ⟨t0, t1, t2, t3, ⟨t4, t5, t6⟩, ⟨t7, t8⟩, t9⟩, hA, hV, hC, hO, hS, hG⟩ := h
  refine ⟨⟨CX_st cx (by omega), MX_st (MX_st mx (by omega)) (by omega)⟩, hk, ⟨t0, t1, t2, t3, ⟨?_, ?_, ?_⟩, ⟨t7, rfl⟩, t9⟩, hA, hV, hC, hO, hS, hG⟩
  · show σC.1 49 3 + 1 = σM.1 0 44 + 1
    omega
  · show 0 ≤ σM.1 0 44 + 1
    omega
  · show σM.1 0 44 + 1 ≤ H + 1
    omega
theorem RR_H {A B σC σM : Mm} {t : Nat} {e d d' H H' : Int} (h : RR A B σC σM t e d H) (hH : H ≤ H') (hd : d ≤ d') : RR A B σC σM t e d' H' := by
  obtain ⟨hx, hk, ⟨⟨t0, t0', t0''⟩, t1, t2, t3, ⟨t4, t5, t6⟩, t7, t8, t9, t10, ⟨t11, t12, t13⟩, t14⟩, hr⟩ := h
  exact ⟨hx, hk, ⟨⟨t0, t0', by omega⟩, t1, t2, t3, ⟨t4, t5, by omega⟩, t7, t8, t9, t10, ⟨t11, t12, by omega⟩, t14⟩, hr⟩
theorem RR_next {A B σC σM : Mm} {t : Nat} {e d H : Int} (h : RR A B σC σM (t + 1) e d H) {p : Int} (hp : 0 ≤ p ∧ p ≤ 400) : RR A B (stI σC 47 t p) (stI σM 27 t p) (t + 1) e d H := by
  obtain ⟨⟨cx, mx⟩, hk, hT, hA, hV, hC, hO, hS, hG⟩ := h
  refine ⟨⟨CX_st cx (by omega), MX_st mx (by omega)⟩, hk, hT, fun f hf => ?_, hV, fun f hf => ?_, hO, hS, hG⟩
  · obtain ⟨a1, a2, a3, a4, a5⟩ := hA f hf
    refine ⟨a1, a2, a3, ?_, ?_⟩
    · by_cases q : f = t
      · subst q
        rw [stI_1, if_pos ⟨rfl, rfl⟩, stI_1, if_pos ⟨rfl, rfl⟩]
      · rw [stI_1, if_neg (by omega), stI_1, if_neg (by omega)]; exact a4
    · by_cases q : f = t
      · subst q
        rw [stI_1, if_pos ⟨rfl, rfl⟩]; exact hp
      · rw [stI_1, if_neg (by omega)]; exact a5
  · rw [stI_1, if_neg (by omega)]
    exact hC f hf
theorem RR_done {A B σC σM : Mm} {t : Nat} {e d H : Int} (h : RR A B σC σM t e d H) : RR A B (stI σC 49 1 (e + 1)) (stI σM 0 39 (e + 1)) t (e + 1) d H := by
  obtain ⟨⟨cx, mx⟩, hk, ⟨t0, t1, t2, t9⟩, hr⟩ := h
  exact ⟨⟨CX_st cx (by omega), MX_st mx (by omega)⟩, hk, ⟨t0, t1, ⟨rfl, rfl⟩, t9⟩, hr⟩
theorem RR_asked {A B σC σM : Mm} {t : Nat} {e d H : Int} (h : RR A B σC σM t e d H) : RR A B (stI σC 49 8 (σC.1 49 8 + 1)) (stI σM 0 43 (σM.1 0 43 + 1)) t e (d + 1) H := by
  obtain ⟨⟨cx, mx⟩, hk, ⟨⟨t0, t0', t0''⟩, t1, t2, t3, t4, t5, t6, t7, t8, ⟨t9, t10, t11⟩, t12⟩, hr⟩ := h
  refine ⟨⟨CX_st cx (by omega), MX_st mx (by omega)⟩, hk, ⟨⟨t0, t0', ?_⟩, t1, t2, t3, t4, t5, t6, t7, t8, ⟨?_, ?_, ?_⟩, t12⟩, hr⟩
  · show σM.1 0 46 ≤ d + 1
    omega
  · show σC.1 49 8 + 1 = σM.1 0 43 + 1
    omega
  · show 0 ≤ σM.1 0 43 + 1
    omega
  · show σM.1 0 43 + 1 ≤ d + 1
    omega
theorem RR_pop {A B σC σM : Mm} {t : Nat} {e d H : Int} (h : RR A B σC σM (t + 1) e d H) : RR A B (stI σC 44 0 t) (stI σM 0 52 t) t e d H := by
  obtain ⟨⟨cx, mx⟩, ⟨k1, k2, k3⟩, hT, hA, hV, hC, hO, hS, hG⟩ := h
  exact ⟨⟨CX_st cx (by omega), MX_st mx (by omega)⟩, ⟨rfl, rfl, by omega⟩, hT, fun f hf => hA f (by omega), fun f v hf hv => hV f v (by omega) hv, fun f hf => hC f (by omega), hO, hS, hG⟩
theorem RR_slot {A B σC σM : Mm} {t : Nat} {e d H : Int} (h : RR A B σC σM t e d H) {i p : Nat} (hp : p < 5) {c m : Int} (hc : thg (σM.1 0 46) c m) (hs : Snd σM (B.2 19 (5 * Int.toNat (σM.1 22 i) + if A.1 8 (Int.toNat (σM.1 21 i)) = 1 then 4 else p)) m) : RR A B (stI σC 54 (5 * i + p) c) (stI σM 24 (5 * i + p) m) t e d H := by
  obtain ⟨⟨cx, mx⟩, hk, hT, hA, hV, hC, hO, hS, hG⟩ := h
  refine ⟨⟨CX_st cx (by omega), MX_st mx (by omega)⟩, hk, hT, hA, hV, hC, hO, fun f w hf hw => ?_, hG⟩
  by_cases q : 5 * f + w = 5 * i + p
  · obtain ⟨rfl, rfl⟩ : f = i ∧ w = p := by omega
    unfold OS
    rw [show (stI σC 54 (5 * f + w) c).1 54 (5 * f + w) = c from if_pos ⟨rfl, rfl⟩, show (stI σM 24 (5 * f + w) m).1 24 (5 * f + w) = m from if_pos ⟨rfl, rfl⟩]
    exact ⟨hc, hs⟩
  · unfold OS
    rw [show (stI σC 54 (5 * i + p) c).1 54 (5 * f + w) = σC.1 54 (5 * f + w) from if_neg (by omega), show (stI σM 24 (5 * i + p) m).1 24 (5 * f + w) = σM.1 24 (5 * f + w) from if_neg (by omega)]
    exact hS f w hf hw
theorem RR_glob {A B σC σM : Mm} {t : Nat} {e d H : Int} (h : RR A B σC σM t e d H) {g : Nat} {c m : Int} (hc : thg (σM.1 0 46) c m) (hs : Snd σM (B.2 20 g) m) : RR A B (stI σC 55 g c) (stI σM 25 g m) t e d H := by
  obtain ⟨⟨cx, mx⟩, hk, hT, hA, hV, hC, hO, hS, hG⟩ := h
  refine ⟨⟨CX_st cx (by omega), MX_st mx (by omega)⟩, hk, hT, hA, hV, hC, hO, hS, fun f hf => ?_⟩
  by_cases q : f = g
  · subst q
    unfold GB
    rw [show (stI σC 55 f c).1 55 f = c from if_pos ⟨rfl, rfl⟩, show (stI σM 25 f m).1 25 f = m from if_pos ⟨rfl, rfl⟩]
    exact ⟨hc, hs⟩
  · unfold GB
    rw [show (stI σC 55 g c).1 55 f = σC.1 55 f from if_neg (by omega), show (stI σM 25 g m).1 25 f = σM.1 25 f from if_neg (by omega)]
    exact hG f hf
theorem RR_OT {A B σC σM σM' : Mm} {t : Nat} {e d H a b : Int} (h : RR A B σC σM t e d H) (ho : OT σM σM' a b) : RR A B σC σM' t e d H := by
  obtain ⟨-, -, o3, o4⟩ := ho
  have r : ∀ k, 1 ≤ k → σM'.1 k = σM.1 k := fun k hk => by funext i; exact o3 k i (by omega)
  obtain ⟨⟨cx, mx⟩, hk, hT, hA, hV, hC, hO, hS, hG⟩ := h
  unfold RR RT
  unfold FA FV OB OS GB Snd nd at *
  unfold RT at hT
  rw [r 21 (by omega), r 22 (by omega), r 23 (by omega), r 24 (by omega), r 25 (by omega), r 26 (by omega), r 27 (by omega), r 28 (by omega), r 29 (by omega), o3 0 52 (by omega), o3 0 46 (by omega), o3 0 38 (by omega), o3 0 39 (by omega), o3 0 40 (by omega), o3 0 41 (by omega), o3 0 42 (by omega), o3 0 43 (by omega), o3 0 44 (by omega), o3 0 45 (by omega)]
  exact ⟨⟨cx, mx.tr ⟨fun k i hq => o3 k i (by omega), o4⟩⟩, hk, hT, hA, hV, hC, hO, hS, hG⟩
/-! the ends -/
theorem RR_Hp {A B σC σM : Mm} {t : Nat} {e d H : Int} (h : RR A B σC σM t e d H) (i : Nat) (hi : (i : Int) < σM.1 0 46) : HpA σC σM i := by
  obtain ⟨⟨cx, mx⟩, hk, hT, hA, hV, hC, hO, hS, hG⟩ := h
  obtain ⟨o1, o2, o3, o4, o5, o6⟩ := hO i hi
  have e8 : σC.1 8 = A.1 8 := CX_row cx (by omega)
  have e10 : σC.1 10 = A.1 10 := CX_row cx (by omega)
  refine ⟨o1, ?_, ?_, ?_, fun p hp => (hS i p hi hp).1⟩
  · rw [cx.1 1 2 (by omega) (by omega)]; exact o2
  · rw [e8]; exact o3
  · rw [o4]
    unfold mcl
    rw [e8, e10]
theorem RE_fail {A B σC σM : Mm} {t : Nat} {e d H : Int} (h : RR A B σC σM t e d H) (hd : d ≤ 300) {x : Int} (hx : x ≠ 0) (s : Int) : RE A B (stI (stI (stI σC 49 0 x) 49 6 s) 43 7 0) (stI (stI σM 0 38 x) 0 41 s) := by
  have hp := RR_Hp h
  obtain ⟨⟨cx, mx⟩, hk, ⟨⟨t0, t0', t0''⟩, t1, ⟨t2, t2'⟩, t3, ⟨t4, t5, t6⟩, t7, t8, t9, t10, ⟨t11, t12, t13⟩, t14⟩, -⟩ := h
  refine ⟨⟨CX_st (CX_st (CX_st cx (by omega)) (by omega)) (by omega), MX_st (MX_st mx (by omega)) (by omega)⟩, ⟨⟨⟨t0, t0', by show σM.1 0 46 ≤ 300; omega⟩, rfl, ?_, t3, t4, ?_, t8, rfl, ?_, t11⟩, fun i hi => hp i hi⟩, rfl, Or.inr hx⟩
  · show σC.1 49 1 = σM.1 0 39
    omega
  · show σC.1 49 4 = σM.1 0 45
    omega
  · show thg (σM.1 0 46) (σC.1 49 7) (σM.1 0 42)
    rw [t10.1, t10.2]
    exact ⟨by omega, rfl⟩
theorem RE_end {A B σC σM : Mm} {t : Nat} {e d H : Int} (h : RR A B σC σM t e d H) (hd : d ≤ 300) {c m : Int} (hc : thg (σM.1 0 46) c m) : RE A B (stI (stI (stI σC 44 0 0) 49 7 c) 43 7 0) (stI (stI σM 0 52 0) 0 42 m) := by
  have hp := RR_Hp h
  obtain ⟨⟨cx, mx⟩, hk, ⟨⟨t0, t0', t0''⟩, t1, ⟨t2, t2'⟩, t3, ⟨t4, t5, t6⟩, t7, t8, t9, t10, ⟨t11, t12, t13⟩, t14⟩, -⟩ := h
  refine ⟨⟨CX_st (CX_st (CX_st cx (by omega)) (by omega)) (by omega), MX_st (MX_st mx (by omega)) (by omega)⟩, ⟨⟨⟨t0, t0', by show σM.1 0 46 ≤ 300; omega⟩, ?_, ?_, t3, t4, ?_, t8, t9, hc, t11⟩, fun i hi => hp i hi⟩, rfl, Or.inl (Int.le_refl 0)⟩
  · show σC.1 49 0 = σM.1 0 38
    omega
  · show σC.1 49 1 = σM.1 0 39
    omega
  · show σC.1 49 4 = σM.1 0 45
    omega
theorem RE_raised {A B σC σM : Mm} {t : Nat} {e d H : Int} (h : RR A B σC σM t e d H) (hd : d ≤ 300) {c m : Int} (hc : thg (σM.1 0 46) c m) (s : Int) : RE A B (stI (stI (stI (stI σC 49 7 c) 49 0 7) 49 6 s) 43 7 0) (stI (stI (stI σM 0 42 m) 0 38 7) 0 41 s) := by
  have hp := RR_Hp h
  obtain ⟨⟨cx, mx⟩, hk, ⟨⟨t0, t0', t0''⟩, t1, ⟨t2, t2'⟩, t3, ⟨t4, t5, t6⟩, t7, t8, t9, t10, ⟨t11, t12, t13⟩, t14⟩, -⟩ := h
  refine ⟨⟨CX_st (CX_st (CX_st (CX_st cx (by omega)) (by omega)) (by omega)) (by omega), MX_st (MX_st (MX_st mx (by omega)) (by omega)) (by omega)⟩, ⟨⟨⟨t0, t0', by show σM.1 0 46 ≤ 300; omega⟩, rfl, ?_, t3, t4, ?_, t8, rfl, hc, t11⟩, fun i hi => hp i hi⟩, rfl, Or.inr (show ¬ (7 : Int) = 0 by omega)⟩
  · show σC.1 49 1 = σM.1 0 39
    omega
  · show σC.1 49 4 = σM.1 0 45
    omega
