/-! CLOSURE: what holds of a STEP when nothing is new -/
def Hs (τ : Mm) (n : Nat) (v : Int) : Int64 := τ.2 16 (8 * n + Int.toNat v)
def Cl0 (σC τ : Mm) (n s : Nat) : Prop := ∃ x : Nat, (x : Int) < τ.1 0 29 ∧ τ.1 17 x = s ∧ τ.1 18 x = n ∧ lb (Hs τ n (σC.1 9 s)) x = true
def Cl2 (σC τ : Mm) (n s : Nat) : Prop := ∀ i, lb (Hs τ n (σC.1 10 s)) i = true → lb (Hs τ n (σC.1 9 s)) i = true
def Cl4 (σC τ : Mm) (n s : Nat) : Prop := ∀ y : Nat, (y : Int) < τ.1 0 29 → lb (Hs τ n (σC.1 10 s)) y = true → ¬ σC.1 8 (xst τ y) = 1 → ∀ i, lb (τ.2 19 (5 * y + Int.toNat (σC.1 11 s))) i = true → lb (Hs τ n (σC.1 9 s)) i = true
def Cl5 (σC τ : Mm) (n s : Nat) : Prop := ∀ y : Nat, (y : Int) < τ.1 0 29 → lb (Hs τ n (σC.1 9 s)) y = true → ¬ σC.1 8 (xst τ y) = 1 → ∀ i, lb (Hs τ n (σC.1 10 s)) i = true → lb (τ.2 19 (5 * y + Int.toNat (σC.1 11 s))) i = true
def Cl6 (σC τ : Mm) (n s : Nat) : Prop := ∀ y : Nat, (y : Int) < τ.1 0 29 → lb (Hs τ n (σC.1 10 s)) y = true → σC.1 8 (xst τ y) = 1 → ∀ i, lb (τ.2 19 (5 * y + 4)) i = true → lb (Hs τ n (σC.1 9 s)) i = true
def Cl7 (σC τ : Mm) (n s : Nat) : Prop := ∀ y : Nat, (y : Int) < τ.1 0 29 → lb (Hs τ n (σC.1 9 s)) y = true → σC.1 8 (xst τ y) = 1 → ∀ i, lb (Hs τ n (σC.1 10 s)) i = true → blw σC (mcl σC (xst τ i)) (Int.toNat (σC.1 10 (xst τ y))) = true → lb (τ.2 19 (5 * y + 4)) i = true
def Cl8 (σC τ : Mm) (n s : Nat) : Prop := ∀ i, lb (Hs τ n (σC.1 10 s)) i = true → blw σC (mcl σC (xst τ i)) (Int.toNat (σC.1 11 s)) = true → lb (Hs τ n (σC.1 9 s)) i = true
def Cl9 (σC τ : Mm) (n s : Nat) : Prop := ∀ y : Nat, (y : Int) < τ.1 0 29 → lb (Hs τ n (σC.1 10 s)) y = true → 0 ≤ mnt σC τ s y → AskC σC τ n s y
def Cl11 (σC τ : Mm) (n s : Nat) : Prop := ∀ i, lb (Hs τ n (σC.1 9 s)) i = true → lb (Hs τ n 6) i = true
def Cl13 (σC τ : Mm) (n s : Nat) : Prop := ∀ i, lb (Hs τ n (σC.1 9 s)) i = true → lb (τ.2 20 (Int.toNat (σC.1 11 s))) i = true
def Cl14 (σC τ : Mm) (n s : Nat) : Prop := ∀ i, lb (τ.2 20 (Int.toNat (σC.1 11 s))) i = true → lb (Hs τ n (σC.1 9 s)) i = true
def Cl (σC τ : Mm) (n s : Nat) : Prop := (σC.1 8 s ≤ 1 → Cl0 σC τ n s) ∧ (σC.1 8 s = 2 → Cl2 σC τ n s) ∧ (σC.1 8 s = 4 → Cl4 σC τ n s) ∧ (σC.1 8 s = 5 → Cl5 σC τ n s) ∧ (σC.1 8 s = 6 → Cl6 σC τ n s) ∧ (σC.1 8 s = 7 → Cl7 σC τ n s) ∧ (σC.1 8 s = 8 → Cl8 σC τ n s) ∧ (σC.1 8 s = 9 → Cl9 σC τ n s) ∧ (σC.1 8 s = 10 → CallC σC τ n s) ∧ (σC.1 8 s = 11 → Cl11 σC τ n s) ∧ (σC.1 8 s = 13 → Cl13 σC τ n s) ∧ (σC.1 8 s = 14 → Cl14 σC τ n s) ∧ (σC.1 8 s = 15 → RsC σC τ n s (Hs τ n (σC.1 9 s)))
def SFd (o : Nat) (σC τ : Mm) (n s : Nat) (fC fM : Option Mm) : Prop := ∃ σC' τ', fC = some σC' ∧ fM = some τ' ∧ ((Ok o σC τ σC' τ' ∧ (Org σC τ → Org σC' τ') ∧ (τ'.1 0 22 = 0 → Cl σC τ n s)) ∨ Ov o σC τ σC' τ')
theorem vb_in {τ : Mm} {n : Nat} {v : Int} (h : 0 ≤ v ∧ v < 6) : vb τ n v = Hs τ n v := by
  unfold vb Hs
  rw [if_pos (by omega)]
/-- a step in which only sets grow -/
theorem Gr_SFd {o : Nat} (ho : o = 15 ∨ o = 29) {σC τ σC' τ' : Mm} {n s : Nat} (h : RF o σC τ) (g : Gr o σC τ σC' τ') (c : τ'.1 0 22 = 0 → Cl σC τ n s) {fC fM : Option Mm} (h1 : fC = some σC') (h2 : fM = some τ') : SFd o σC τ n s fC fM :=
  ⟨σC', τ', h1, h2, Or.inl ⟨g.ok, fun hO => Org_mono ho h g.2.2.2.2.1 g.2.1.1 hO (fun t _ a1 a2 => by have := g.2.2.1 0 24 (by decide); omega), c⟩⟩
theorem bind_id {α : Type} (x : Option α) : x.bind (fun r => some r) = x := by cases x <;> rfl

theorem stp0 {o : Nat} (ho : o = 15 ∨ o = 29) {σC τ : Mm} (h : RF o σC τ) (h0 : τ.1 0 23 = 0) {n s : Nat} (hn : (n : Int) < τ.1 0 24) (hs : (s : Int) < σC.1 1 2) (how : σC.1 13 s = τ.1 13 n) (hk : σC.1 8 s = 0) : SFd o σC τ n s (f_X0_doStep o n s σC) (f_X7_goes n s τ) := by
  obtain ⟨⟨t1, t2, -⟩, s7, s8, s9, s10, s11⟩ := h.2.1
  have h12 := h.1.1.2.2.1
  have h10 := h.1.1.1
  obtain ⟨⟨-, -, p8, -⟩, -⟩ := h.1.2.2.2.2.2.1 s hs
  have hck : (0 : Int) ≤ (s : Int) ∧ (s : Int) < ((90 : Nat) : Int) := by omega
  unfold f_X0_doStep
  rw [ck_pos hck, ck_pos hck, ck_pos hck, ck_pos hck, Int.toNat_natCast, if_pos hk]
  rw [g_goes h hn hs]
  unfold f_X7_goes_71
  rw [ck_pos hck, Int.toNat_natCast, p8, if_pos hk]
  obtain ⟨o1, o2, o3, o4, o5, o6, o7, o8, o9, o10, o11⟩ := PR_okS h.1 hs
  have ha := o2 (by rw [hk]; decide)
  clear o1 o2 o3 o4 o5 o6 o7 o8 o9 o10 o11
  obtain ⟨σ1, τ1, q1, q2, q3⟩ := make_sim ho h h0 hn hs how (show σC.1 8 s ≤ 1 by omega)
  refine ⟨σ1, τ1, q1, q2, ?_⟩
  rcases q3 with ⟨q3, q4, q5⟩ | q3
  · exact Or.inl ⟨q3, q4, fun z => ⟨fun _ => q5 z, fun e => absurd e (by rw [hk]; decide), fun e => absurd e (by rw [hk]; decide), fun e => absurd e (by rw [hk]; decide), fun e => absurd e (by rw [hk]; decide), fun e => absurd e (by rw [hk]; decide), fun e => absurd e (by rw [hk]; decide), fun e => absurd e (by rw [hk]; decide), fun e => absurd e (by rw [hk]; decide), fun e => absurd e (by rw [hk]; decide), fun e => absurd e (by rw [hk]; decide), fun e => absurd e (by rw [hk]; decide), fun e => absurd e (by rw [hk]; decide)⟩⟩
  · exact Or.inr q3
theorem stp1 {o : Nat} (ho : o = 15 ∨ o = 29) {σC τ : Mm} (h : RF o σC τ) (h0 : τ.1 0 23 = 0) {n s : Nat} (hn : (n : Int) < τ.1 0 24) (hs : (s : Int) < σC.1 1 2) (how : σC.1 13 s = τ.1 13 n) (hk : σC.1 8 s = 1) : SFd o σC τ n s (f_X0_doStep o n s σC) (f_X7_goes n s τ) := by
  obtain ⟨⟨t1, t2, -⟩, s7, s8, s9, s10, s11⟩ := h.2.1
  have h12 := h.1.1.2.2.1
  have h10 := h.1.1.1
  obtain ⟨⟨-, -, p8, -⟩, -⟩ := h.1.2.2.2.2.2.1 s hs
  have hck : (0 : Int) ≤ (s : Int) ∧ (s : Int) < ((90 : Nat) : Int) := by omega
  unfold f_X0_doStep
  rw [ck_pos hck, ck_pos hck, ck_pos hck, ck_pos hck, Int.toNat_natCast, if_neg (show ¬ σC.1 8 s = 0 by rw [hk]; decide), if_pos hk]
  rw [g_goes h hn hs]
  unfold f_X7_goes_71
  rw [ck_pos hck, Int.toNat_natCast, p8, if_neg (show ¬ σC.1 8 s = 0 by rw [hk]; decide), if_pos hk]
  obtain ⟨o1, o2, o3, o4, o5, o6, o7, o8, o9, o10, o11⟩ := PR_okS h.1 hs
  have ha := o2 (by rw [hk]; decide)
  clear o1 o2 o3 o4 o5 o6 o7 o8 o9 o10 o11
  obtain ⟨σ1, τ1, q1, q2, q3⟩ := make_sim ho h h0 hn hs how (show σC.1 8 s ≤ 1 by omega)
  refine ⟨σ1, τ1, q1, q2, ?_⟩
  rcases q3 with ⟨q3, q4, q5⟩ | q3
  · exact Or.inl ⟨q3, q4, fun z => ⟨fun _ => q5 z, fun e => absurd e (by rw [hk]; decide), fun e => absurd e (by rw [hk]; decide), fun e => absurd e (by rw [hk]; decide), fun e => absurd e (by rw [hk]; decide), fun e => absurd e (by rw [hk]; decide), fun e => absurd e (by rw [hk]; decide), fun e => absurd e (by rw [hk]; decide), fun e => absurd e (by rw [hk]; decide), fun e => absurd e (by rw [hk]; decide), fun e => absurd e (by rw [hk]; decide), fun e => absurd e (by rw [hk]; decide), fun e => absurd e (by rw [hk]; decide)⟩⟩
  · exact Or.inr q3
theorem stp2 {o : Nat} (ho : o = 15 ∨ o = 29) {σC τ : Mm} (h : RF o σC τ) (h0 : τ.1 0 23 = 0) {n s : Nat} (hn : (n : Int) < τ.1 0 24) (hs : (s : Int) < σC.1 1 2) (how : σC.1 13 s = τ.1 13 n) (hk : σC.1 8 s = 2) : SFd o σC τ n s (f_X0_doStep o n s σC) (f_X7_goes n s τ) := by
  obtain ⟨⟨t1, t2, -⟩, s7, s8, s9, s10, s11⟩ := h.2.1
  have h12 := h.1.1.2.2.1
  have h10 := h.1.1.1
  obtain ⟨⟨-, -, p8, -⟩, -⟩ := h.1.2.2.2.2.2.1 s hs
  have hck : (0 : Int) ≤ (s : Int) ∧ (s : Int) < ((90 : Nat) : Int) := by omega
  unfold f_X0_doStep
  rw [ck_pos hck, ck_pos hck, ck_pos hck, ck_pos hck, Int.toNat_natCast, if_neg (show ¬ σC.1 8 s = 0 by rw [hk]; decide), if_neg (show ¬ σC.1 8 s = 1 by rw [hk]; decide), if_pos hk]
  rw [g_goes h hn hs]
  unfold f_X7_goes_71
  rw [ck_pos hck, Int.toNat_natCast, p8, if_neg (show ¬ σC.1 8 s = 0 by rw [hk]; decide), if_neg (show ¬ σC.1 8 s = 1 by rw [hk]; decide), if_pos hk]
  obtain ⟨o1, o2, o3, o4, o5, o6, o7, o8, o9, o10, o11⟩ := PR_okS h.1 hs
  have ha := o2 (by rw [hk]; decide)
  have hb := o5 (by rw [hk]; decide)
  clear o1 o2 o3 o4 o5 o6 o7 o8 o9 o10 o11
  obtain ⟨va, hva⟩ : ∃ x : Nat, σC.1 9 s = x := ⟨Int.toNat (σC.1 9 s), by omega⟩
  obtain ⟨vb', hvb'⟩ : ∃ x : Nat, σC.1 10 s = x := ⟨Int.toNat (σC.1 10 s), by omega⟩
  obtain ⟨d1, d2⟩ := h.2.2.2.2.1 n vb' hn (by omega)
  obtain ⟨σ1, τ1, q1, q2, q3, q4⟩ := hold_sim ho h hn (show va < 8 by omega) (x := τ.2 16 (8 * n + vb')) d2
  rw [vb_in (by omega), bind_id, hva, hvb', show Hs τ n (vb' : Int) = τ.2 16 (8 * n + vb') from rfl, e_setOf (by omega) (by omega), bind_s, bind_id, d1]
  refine Gr_SFd ho h q3 (fun z => ⟨fun e => absurd e (by rw [hk]; decide), fun _ => (by unfold Cl2 Hs; rw [hva, hvb', Int.toNat_natCast, Int.toNat_natCast]; exact HdM_sub q4 z), fun e => absurd e (by rw [hk]; decide), fun e => absurd e (by rw [hk]; decide), fun e => absurd e (by rw [hk]; decide), fun e => absurd e (by rw [hk]; decide), fun e => absurd e (by rw [hk]; decide), fun e => absurd e (by rw [hk]; decide), fun e => absurd e (by rw [hk]; decide), fun e => absurd e (by rw [hk]; decide), fun e => absurd e (by rw [hk]; decide), fun e => absurd e (by rw [hk]; decide), fun e => absurd e (by rw [hk]; decide)⟩) q1 q2
theorem stp3 {o : Nat} (ho : o = 15 ∨ o = 29) {σC τ : Mm} (h : RF o σC τ) (h0 : τ.1 0 23 = 0) {n s : Nat} (hn : (n : Int) < τ.1 0 24) (hs : (s : Int) < σC.1 1 2) (how : σC.1 13 s = τ.1 13 n) (hk : σC.1 8 s = 3) : SFd o σC τ n s (f_X0_doStep o n s σC) (f_X7_goes n s τ) := by
  obtain ⟨⟨t1, t2, -⟩, s7, s8, s9, s10, s11⟩ := h.2.1
  have h12 := h.1.1.2.2.1
  have h10 := h.1.1.1
  obtain ⟨⟨-, -, p8, -⟩, -⟩ := h.1.2.2.2.2.2.1 s hs
  have hck : (0 : Int) ≤ (s : Int) ∧ (s : Int) < ((90 : Nat) : Int) := by omega
  unfold f_X0_doStep
  rw [ck_pos hck, ck_pos hck, ck_pos hck, ck_pos hck, Int.toNat_natCast, if_neg (show ¬ σC.1 8 s = 0 by rw [hk]; decide), if_neg (show ¬ σC.1 8 s = 1 by rw [hk]; decide), if_neg (show ¬ σC.1 8 s = 2 by rw [hk]; decide), if_pos hk]
  rw [g_goes h hn hs]
  unfold f_X7_goes_71
  rw [ck_pos hck, Int.toNat_natCast, p8, if_neg (show ¬ σC.1 8 s = 0 by rw [hk]; decide), if_neg (show ¬ σC.1 8 s = 1 by rw [hk]; decide), if_neg (show ¬ σC.1 8 s = 2 by rw [hk]; decide), if_pos hk]
  obtain ⟨o1, o2, o3, o4, o5, o6, o7, o8, o9, o10, o11⟩ := PR_okS h.1 hs
  have ha := o2 (by rw [hk]; decide)
  clear o1 o2 o3 o4 o5 o6 o7 o8 o9 o10 o11
  refine Gr_SFd ho h (Gr.rf h) (fun z => ⟨fun e => absurd e (by rw [hk]; decide), fun e => absurd e (by rw [hk]; decide), fun e => absurd e (by rw [hk]; decide), fun e => absurd e (by rw [hk]; decide), fun e => absurd e (by rw [hk]; decide), fun e => absurd e (by rw [hk]; decide), fun e => absurd e (by rw [hk]; decide), fun e => absurd e (by rw [hk]; decide), fun e => absurd e (by rw [hk]; decide), fun e => absurd e (by rw [hk]; decide), fun e => absurd e (by rw [hk]; decide), fun e => absurd e (by rw [hk]; decide), fun e => absurd e (by rw [hk]; decide)⟩) rfl rfl
theorem stp4 {o : Nat} (ho : o = 15 ∨ o = 29) {σC τ : Mm} (h : RF o σC τ) (h0 : τ.1 0 23 = 0) {n s : Nat} (hn : (n : Int) < τ.1 0 24) (hs : (s : Int) < σC.1 1 2) (how : σC.1 13 s = τ.1 13 n) (hk : σC.1 8 s = 4) : SFd o σC τ n s (f_X0_doStep o n s σC) (f_X7_goes n s τ) := by
  obtain ⟨⟨t1, t2, -⟩, s7, s8, s9, s10, s11⟩ := h.2.1
  have h12 := h.1.1.2.2.1
  have h10 := h.1.1.1
  obtain ⟨⟨-, -, p8, -⟩, -⟩ := h.1.2.2.2.2.2.1 s hs
  have hck : (0 : Int) ≤ (s : Int) ∧ (s : Int) < ((90 : Nat) : Int) := by omega
  unfold f_X0_doStep
  rw [ck_pos hck, ck_pos hck, ck_pos hck, ck_pos hck, Int.toNat_natCast, if_neg (show ¬ σC.1 8 s = 0 by rw [hk]; decide), if_neg (show ¬ σC.1 8 s = 1 by rw [hk]; decide), if_neg (show ¬ σC.1 8 s = 2 by rw [hk]; decide), if_neg (show ¬ σC.1 8 s = 3 by rw [hk]; decide), if_pos hk]
  rw [g_goes h hn hs]
  unfold f_X7_goes_71
  rw [ck_pos hck, Int.toNat_natCast, p8, if_neg (show ¬ σC.1 8 s = 0 by rw [hk]; decide), if_neg (show ¬ σC.1 8 s = 1 by rw [hk]; decide), if_neg (show ¬ σC.1 8 s = 2 by rw [hk]; decide), if_neg (show ¬ σC.1 8 s = 3 by rw [hk]; decide), if_pos hk]
  obtain ⟨o1, o2, o3, o4, o5, o6, o7, o8, o9, o10, o11⟩ := PR_okS h.1 hs
  have ha := o2 (by rw [hk]; decide)
  have hb := o5 (by rw [hk]; decide)
  have hc := o6 (by rw [hk]; decide)
  clear o1 o2 o3 o4 o5 o6 o7 o8 o9 o10 o11
  obtain ⟨va, hva⟩ : ∃ x : Nat, σC.1 9 s = x := ⟨Int.toNat (σC.1 9 s), by omega⟩
  obtain ⟨vb', hvb'⟩ : ∃ x : Nat, σC.1 10 s = x := ⟨Int.toNat (σC.1 10 s), by omega⟩
  obtain ⟨vc, hvc⟩ : ∃ x : Nat, σC.1 11 s = x := ⟨Int.toNat (σC.1 11 s), by omega⟩
  obtain ⟨d1, d2⟩ := h.2.2.2.2.1 n vb' hn (by omega)
  have hbc : ∀ i, lb (τ.2 16 (8 * n + vb') &&& (σC.2 o 6 ^^^ (-1))) i = true ↔ lb (τ.2 16 (8 * n + vb')) i = true ∧ (σC.1 8 (xst τ i) = 1 ↔ σC.1 8 s = 6) := fun i => by
    rw [lb_and, Bool.and_eq_true]
    constructor
    · rintro ⟨z1, z2⟩
      have := d2 i z1
      rw [lb_not (by omega)] at z2
      exact ⟨z1, ⟨fun z => (by rw [(h.2.2.2.2.2.2.2.1.2 i).mpr ⟨this, z⟩] at z2; cases z2), fun z => by omega⟩⟩
    · rintro ⟨z1, z2⟩
      have := d2 i z1
      refine ⟨z1, ?_⟩
      rw [lb_not (by omega)]
      cases hz : lb (σC.2 o 6) i
      · rfl
      · have := z2.mp ((h.2.2.2.2.2.2.2.1.2 i).mp hz).2; omega
  obtain ⟨σ1, τ1, q1, q2, q3, q4⟩ := load_sim ho h hn (show va < 8 by omega) hs (vc : Int) (fl := vc) (by rw [if_neg (by omega), Int.toNat_natCast]) (by omega) (by omega) hbc
  rw [vb_in (by omega), hva, hvb', hvc, show Hs τ n (vb' : Int) = τ.2 16 (8 * n + vb') from rfl, e_setOf (by omega) (by omega), bind_s, d1]
  simp only [bind_id]
  refine Gr_SFd ho h q3 (fun z => ⟨fun e => absurd e (by rw [hk]; decide), fun e => absurd e (by rw [hk]; decide), fun _ => (by unfold Cl4 Hs; rw [hva, hvb', hvc, Int.toNat_natCast, Int.toNat_natCast, Int.toNat_natCast]; exact fun y y1 y2 y3 => q4 z y y1 y2 ⟨fun e => absurd e y3, fun e => by omega⟩), fun e => absurd e (by rw [hk]; decide), fun e => absurd e (by rw [hk]; decide), fun e => absurd e (by rw [hk]; decide), fun e => absurd e (by rw [hk]; decide), fun e => absurd e (by rw [hk]; decide), fun e => absurd e (by rw [hk]; decide), fun e => absurd e (by rw [hk]; decide), fun e => absurd e (by rw [hk]; decide), fun e => absurd e (by rw [hk]; decide), fun e => absurd e (by rw [hk]; decide)⟩) q1 q2
theorem stp5 {o : Nat} (ho : o = 15 ∨ o = 29) {σC τ : Mm} (h : RF o σC τ) (h0 : τ.1 0 23 = 0) {n s : Nat} (hn : (n : Int) < τ.1 0 24) (hs : (s : Int) < σC.1 1 2) (how : σC.1 13 s = τ.1 13 n) (hk : σC.1 8 s = 5) : SFd o σC τ n s (f_X0_doStep o n s σC) (f_X7_goes n s τ) := by
  obtain ⟨⟨t1, t2, -⟩, s7, s8, s9, s10, s11⟩ := h.2.1
  have h12 := h.1.1.2.2.1
  have h10 := h.1.1.1
  obtain ⟨⟨-, -, p8, -⟩, -⟩ := h.1.2.2.2.2.2.1 s hs
  have hck : (0 : Int) ≤ (s : Int) ∧ (s : Int) < ((90 : Nat) : Int) := by omega
  unfold f_X0_doStep
  rw [ck_pos hck, ck_pos hck, ck_pos hck, ck_pos hck, Int.toNat_natCast, if_neg (show ¬ σC.1 8 s = 0 by rw [hk]; decide), if_neg (show ¬ σC.1 8 s = 1 by rw [hk]; decide), if_neg (show ¬ σC.1 8 s = 2 by rw [hk]; decide), if_neg (show ¬ σC.1 8 s = 3 by rw [hk]; decide), if_neg (show ¬ σC.1 8 s = 4 by rw [hk]; decide), if_pos hk]
  rw [g_goes h hn hs]
  unfold f_X7_goes_71
  rw [ck_pos hck, Int.toNat_natCast, p8, if_neg (show ¬ σC.1 8 s = 0 by rw [hk]; decide), if_neg (show ¬ σC.1 8 s = 1 by rw [hk]; decide), if_neg (show ¬ σC.1 8 s = 2 by rw [hk]; decide), if_neg (show ¬ σC.1 8 s = 3 by rw [hk]; decide), if_neg (show ¬ σC.1 8 s = 4 by rw [hk]; decide), if_pos hk]
  obtain ⟨o1, o2, o3, o4, o5, o6, o7, o8, o9, o10, o11⟩ := PR_okS h.1 hs
  have ha := o2 (by rw [hk]; decide)
  have hb := o5 (by rw [hk]; decide)
  have hc := o6 (by rw [hk]; decide)
  clear o1 o2 o3 o4 o5 o6 o7 o8 o9 o10 o11
  obtain ⟨va, hva⟩ : ∃ x : Nat, σC.1 9 s = x := ⟨Int.toNat (σC.1 9 s), by omega⟩
  obtain ⟨vb', hvb'⟩ : ∃ x : Nat, σC.1 10 s = x := ⟨Int.toNat (σC.1 10 s), by omega⟩
  obtain ⟨vc, hvc⟩ : ∃ x : Nat, σC.1 11 s = x := ⟨Int.toNat (σC.1 11 s), by omega⟩
  obtain ⟨d1, d2⟩ := h.2.2.2.2.1 n vb' hn (by omega)
  obtain ⟨f1, f2⟩ := h.2.2.2.2.1 n va hn (by omega)
  have hbc : ∀ i, lb (τ.2 16 (8 * n + va) &&& (σC.2 o 6 ^^^ (-1))) i = true ↔ lb (τ.2 16 (8 * n + va)) i = true ∧ ¬ σC.1 8 (xst τ i) = 1 := fun i => by
    rw [lb_and, Bool.and_eq_true]
    constructor
    · rintro ⟨z1, z2⟩
      have := f2 i z1
      rw [lb_not (by omega)] at z2
      exact ⟨z1, fun z => by rw [(h.2.2.2.2.2.2.2.1.2 i).mpr ⟨this, z⟩] at z2; cases z2⟩
    · rintro ⟨z1, z2⟩
      have := f2 i z1
      refine ⟨z1, ?_⟩
      rw [lb_not (by omega)]
      cases hz : lb (σC.2 o 6) i
      · rfl
      · exact absurd ((h.2.2.2.2.2.2.2.1.2 i).mp hz).2 z2
  obtain ⟨σ1, τ1, q1, q2, q3, q4⟩ := store_aux ho (N := Int.toNat (τ.1 0 29)) (fl := vc) (by omega) (by omega) (ones := τ.2 16 (8 * n + va)) (bc := τ.2 16 (8 * n + va) &&& (σC.2 o 6 ^^^ (-1))) (th := τ.2 16 (8 * n + vb')) (Int.toNat (τ.1 0 29)) 2000 0 σC τ h (by omega) (fun i hi => by have := d2 i hi; omega) hbc (by omega) (by omega)
  rw [show ((0 : Nat) : Int) = 0 from rfl] at q1 q2
  rw [vb_in (by omega), vb_in (by omega), hva, hvb', hvc, show Hs τ n (vb' : Int) = τ.2 16 (8 * n + vb') from rfl, show Hs τ n (va : Int) = τ.2 16 (8 * n + va) from rfl, e_setOf (by omega) (by omega), bind_s, e_setOf (by omega) (by omega), bind_s, d1, f1, bind_id]
  refine Gr_SFd ho h q3 (fun z => ⟨fun e => absurd e (by rw [hk]; decide), fun e => absurd e (by rw [hk]; decide), fun e => absurd e (by rw [hk]; decide), fun _ => (by unfold Cl5 Hs; rw [hva, hvb', hvc, Int.toNat_natCast, Int.toNat_natCast, Int.toNat_natCast]; exact fun y y1 y2 y3 => q4 z y (by omega) y2 y3), fun e => absurd e (by rw [hk]; decide), fun e => absurd e (by rw [hk]; decide), fun e => absurd e (by rw [hk]; decide), fun e => absurd e (by rw [hk]; decide), fun e => absurd e (by rw [hk]; decide), fun e => absurd e (by rw [hk]; decide), fun e => absurd e (by rw [hk]; decide), fun e => absurd e (by rw [hk]; decide), fun e => absurd e (by rw [hk]; decide)⟩) q1 q2
theorem stp6 {o : Nat} (ho : o = 15 ∨ o = 29) {σC τ : Mm} (h : RF o σC τ) (h0 : τ.1 0 23 = 0) {n s : Nat} (hn : (n : Int) < τ.1 0 24) (hs : (s : Int) < σC.1 1 2) (how : σC.1 13 s = τ.1 13 n) (hk : σC.1 8 s = 6) : SFd o σC τ n s (f_X0_doStep o n s σC) (f_X7_goes n s τ) := by
  obtain ⟨⟨t1, t2, -⟩, s7, s8, s9, s10, s11⟩ := h.2.1
  have h12 := h.1.1.2.2.1
  have h10 := h.1.1.1
  obtain ⟨⟨-, -, p8, -⟩, -⟩ := h.1.2.2.2.2.2.1 s hs
  have hck : (0 : Int) ≤ (s : Int) ∧ (s : Int) < ((90 : Nat) : Int) := by omega
  unfold f_X0_doStep
  rw [ck_pos hck, ck_pos hck, ck_pos hck, ck_pos hck, Int.toNat_natCast, if_neg (show ¬ σC.1 8 s = 0 by rw [hk]; decide), if_neg (show ¬ σC.1 8 s = 1 by rw [hk]; decide), if_neg (show ¬ σC.1 8 s = 2 by rw [hk]; decide), if_neg (show ¬ σC.1 8 s = 3 by rw [hk]; decide), if_neg (show ¬ σC.1 8 s = 4 by rw [hk]; decide), if_neg (show ¬ σC.1 8 s = 5 by rw [hk]; decide), if_pos hk]
  rw [g_goes h hn hs]
  unfold f_X7_goes_71
  rw [ck_pos hck, Int.toNat_natCast, p8, if_neg (show ¬ σC.1 8 s = 0 by rw [hk]; decide), if_neg (show ¬ σC.1 8 s = 1 by rw [hk]; decide), if_neg (show ¬ σC.1 8 s = 2 by rw [hk]; decide), if_neg (show ¬ σC.1 8 s = 3 by rw [hk]; decide), if_neg (show ¬ σC.1 8 s = 4 by rw [hk]; decide), if_neg (show ¬ σC.1 8 s = 5 by rw [hk]; decide), if_pos hk]
  obtain ⟨o1, o2, o3, o4, o5, o6, o7, o8, o9, o10, o11⟩ := PR_okS h.1 hs
  have ha := o2 (by rw [hk]; decide)
  have hb := o5 (by rw [hk]; decide)
  have hc := o7 (by rw [hk]; decide)
  clear o1 o2 o3 o4 o5 o6 o7 o8 o9 o10 o11
  obtain ⟨va, hva⟩ : ∃ x : Nat, σC.1 9 s = x := ⟨Int.toNat (σC.1 9 s), by omega⟩
  obtain ⟨vb', hvb'⟩ : ∃ x : Nat, σC.1 10 s = x := ⟨Int.toNat (σC.1 10 s), by omega⟩
  obtain ⟨vc, hvc⟩ : ∃ x : Nat, σC.1 11 s = x := ⟨Int.toNat (σC.1 11 s), by omega⟩
  obtain ⟨d1, d2⟩ := h.2.2.2.2.1 n vb' hn (by omega)
  have hbc : ∀ i, lb (τ.2 16 (8 * n + vb') &&& σC.2 o 6) i = true ↔ lb (τ.2 16 (8 * n + vb')) i = true ∧ (σC.1 8 (xst τ i) = 1 ↔ σC.1 8 s = 6) := fun i => by
    rw [lb_and, Bool.and_eq_true]
    constructor
    · rintro ⟨z1, z2⟩
      exact ⟨z1, fun _ => hk, fun _ => ((h.2.2.2.2.2.2.2.1.2 i).mp z2).2⟩
    · rintro ⟨z1, z2⟩
      exact ⟨z1, (h.2.2.2.2.2.2.2.1.2 i).mpr ⟨d2 i z1, z2.mpr hk⟩⟩
  obtain ⟨σ1, τ1, q1, q2, q3, q4⟩ := load_sim ho h hn (show va < 8 by omega) hs (vc : Int) (fl := 4) (by rw [if_pos (by omega)]) (by omega) (by omega) hbc
  rw [show ((4 : Nat) : Int) = 4 from rfl] at q1
  rw [vb_in (by omega), hva, hvb', hvc, show Hs τ n (vb' : Int) = τ.2 16 (8 * n + vb') from rfl, e_setOf (by omega) (by omega), bind_s, d1]
  simp only [bind_id]
  refine Gr_SFd ho h q3 (fun z => ⟨fun e => absurd e (by rw [hk]; decide), fun e => absurd e (by rw [hk]; decide), fun e => absurd e (by rw [hk]; decide), fun e => absurd e (by rw [hk]; decide), fun _ => (by unfold Cl6 Hs; rw [hva, hvb', Int.toNat_natCast, Int.toNat_natCast]; exact fun y y1 y2 y3 => q4 z y y1 y2 ⟨fun _ => hk, fun _ => y3⟩), fun e => absurd e (by rw [hk]; decide), fun e => absurd e (by rw [hk]; decide), fun e => absurd e (by rw [hk]; decide), fun e => absurd e (by rw [hk]; decide), fun e => absurd e (by rw [hk]; decide), fun e => absurd e (by rw [hk]; decide), fun e => absurd e (by rw [hk]; decide), fun e => absurd e (by rw [hk]; decide)⟩) q1 q2
theorem stp7 {o : Nat} (ho : o = 15 ∨ o = 29) {σC τ : Mm} (h : RF o σC τ) (h0 : τ.1 0 23 = 0) {n s : Nat} (hn : (n : Int) < τ.1 0 24) (hs : (s : Int) < σC.1 1 2) (how : σC.1 13 s = τ.1 13 n) (hk : σC.1 8 s = 7) : SFd o σC τ n s (f_X0_doStep o n s σC) (f_X7_goes n s τ) := by
  obtain ⟨⟨t1, t2, -⟩, s7, s8, s9, s10, s11⟩ := h.2.1
  have h12 := h.1.1.2.2.1
  have h10 := h.1.1.1
  obtain ⟨⟨-, -, p8, -⟩, -⟩ := h.1.2.2.2.2.2.1 s hs
  have hck : (0 : Int) ≤ (s : Int) ∧ (s : Int) < ((90 : Nat) : Int) := by omega
  unfold f_X0_doStep
  rw [ck_pos hck, ck_pos hck, ck_pos hck, ck_pos hck, Int.toNat_natCast, if_neg (show ¬ σC.1 8 s = 0 by rw [hk]; decide), if_neg (show ¬ σC.1 8 s = 1 by rw [hk]; decide), if_neg (show ¬ σC.1 8 s = 2 by rw [hk]; decide), if_neg (show ¬ σC.1 8 s = 3 by rw [hk]; decide), if_neg (show ¬ σC.1 8 s = 4 by rw [hk]; decide), if_neg (show ¬ σC.1 8 s = 5 by rw [hk]; decide), if_neg (show ¬ σC.1 8 s = 6 by rw [hk]; decide), if_pos hk]
  rw [g_goes h hn hs]
  unfold f_X7_goes_71
  rw [ck_pos hck, Int.toNat_natCast, p8, if_neg (show ¬ σC.1 8 s = 0 by rw [hk]; decide), if_neg (show ¬ σC.1 8 s = 1 by rw [hk]; decide), if_neg (show ¬ σC.1 8 s = 2 by rw [hk]; decide), if_neg (show ¬ σC.1 8 s = 3 by rw [hk]; decide), if_neg (show ¬ σC.1 8 s = 4 by rw [hk]; decide), if_neg (show ¬ σC.1 8 s = 5 by rw [hk]; decide), if_neg (show ¬ σC.1 8 s = 6 by rw [hk]; decide), if_pos hk]
  obtain ⟨o1, o2, o3, o4, o5, o6, o7, o8, o9, o10, o11⟩ := PR_okS h.1 hs
  have ha := o2 (by rw [hk]; decide)
  have hb := o5 (by rw [hk]; decide)
  have hc := o7 (by rw [hk]; decide)
  clear o1 o2 o3 o4 o5 o6 o7 o8 o9 o10 o11
  obtain ⟨va, hva⟩ : ∃ x : Nat, σC.1 9 s = x := ⟨Int.toNat (σC.1 9 s), by omega⟩
  obtain ⟨vb', hvb'⟩ : ∃ x : Nat, σC.1 10 s = x := ⟨Int.toNat (σC.1 10 s), by omega⟩
  obtain ⟨d1, d2⟩ := h.2.2.2.2.1 n vb' hn (by omega)
  obtain ⟨f1, f2⟩ := h.2.2.2.2.1 n va hn (by omega)
  have hbc : ∀ i, lb (τ.2 16 (8 * n + va) &&& σC.2 o 6) i = true ↔ lb (τ.2 16 (8 * n + va)) i = true ∧ (i < Int.toNat (τ.1 0 29) ∧ σC.1 8 (xst τ i) = 1) := fun i => by
    rw [lb_and, Bool.and_eq_true, h.2.2.2.2.2.2.2.1.2 i]
    constructor
    · rintro ⟨z1, z2, z3⟩; exact ⟨z1, by omega, z3⟩
    · rintro ⟨z1, z2, z3⟩; exact ⟨z1, by omega, z3⟩
  obtain ⟨σ1, τ1, q1, q2, q3, q4⟩ := lay_aux ho (N := Int.toNat (τ.1 0 29)) (by omega) (ones := τ.2 16 (8 * n + va)) (bc := τ.2 16 (8 * n + va) &&& σC.2 o 6) (th := τ.2 16 (8 * n + vb')) (Int.toNat (τ.1 0 29)) 2000 0 σC τ h (by omega) (fun i hi => by have := d2 i hi; omega) hbc (by omega) (by omega)
  rw [show ((0 : Nat) : Int) = 0 from rfl] at q1 q2
  rw [vb_in (by omega), vb_in (by omega), hva, hvb', show Hs τ n (vb' : Int) = τ.2 16 (8 * n + vb') from rfl, show Hs τ n (va : Int) = τ.2 16 (8 * n + va) from rfl, e_setOf (by omega) (by omega), bind_s, e_setOf (by omega) (by omega), bind_s, d1, f1, bind_id]
  refine Gr_SFd ho h q3 (fun z => ⟨fun e => absurd e (by rw [hk]; decide), fun e => absurd e (by rw [hk]; decide), fun e => absurd e (by rw [hk]; decide), fun e => absurd e (by rw [hk]; decide), fun e => absurd e (by rw [hk]; decide), fun _ => (by unfold Cl7 Hs; rw [hva, hvb', Int.toNat_natCast, Int.toNat_natCast]; exact fun y y1 y2 y3 => q4 z y (by omega) y2 y3), fun e => absurd e (by rw [hk]; decide), fun e => absurd e (by rw [hk]; decide), fun e => absurd e (by rw [hk]; decide), fun e => absurd e (by rw [hk]; decide), fun e => absurd e (by rw [hk]; decide), fun e => absurd e (by rw [hk]; decide), fun e => absurd e (by rw [hk]; decide)⟩) q1 q2
theorem stp8 {o : Nat} (ho : o = 15 ∨ o = 29) {σC τ : Mm} (h : RF o σC τ) (h0 : τ.1 0 23 = 0) {n s : Nat} (hn : (n : Int) < τ.1 0 24) (hs : (s : Int) < σC.1 1 2) (how : σC.1 13 s = τ.1 13 n) (hk : σC.1 8 s = 8) : SFd o σC τ n s (f_X0_doStep o n s σC) (f_X7_goes n s τ) := by
  obtain ⟨⟨t1, t2, -⟩, s7, s8, s9, s10, s11⟩ := h.2.1
  have h12 := h.1.1.2.2.1
  have h10 := h.1.1.1
  obtain ⟨⟨-, -, p8, -⟩, -⟩ := h.1.2.2.2.2.2.1 s hs
  have hck : (0 : Int) ≤ (s : Int) ∧ (s : Int) < ((90 : Nat) : Int) := by omega
  unfold f_X0_doStep
  rw [ck_pos hck, ck_pos hck, ck_pos hck, ck_pos hck, Int.toNat_natCast, if_neg (show ¬ σC.1 8 s = 0 by rw [hk]; decide), if_neg (show ¬ σC.1 8 s = 1 by rw [hk]; decide), if_neg (show ¬ σC.1 8 s = 2 by rw [hk]; decide), if_neg (show ¬ σC.1 8 s = 3 by rw [hk]; decide), if_neg (show ¬ σC.1 8 s = 4 by rw [hk]; decide), if_neg (show ¬ σC.1 8 s = 5 by rw [hk]; decide), if_neg (show ¬ σC.1 8 s = 6 by rw [hk]; decide), if_neg (show ¬ σC.1 8 s = 7 by rw [hk]; decide), if_pos hk]
  rw [g_goes h hn hs]
  unfold f_X7_goes_71
  rw [ck_pos hck, Int.toNat_natCast, p8, if_neg (show ¬ σC.1 8 s = 0 by rw [hk]; decide), if_neg (show ¬ σC.1 8 s = 1 by rw [hk]; decide), if_neg (show ¬ σC.1 8 s = 2 by rw [hk]; decide), if_neg (show ¬ σC.1 8 s = 3 by rw [hk]; decide), if_neg (show ¬ σC.1 8 s = 4 by rw [hk]; decide), if_neg (show ¬ σC.1 8 s = 5 by rw [hk]; decide), if_neg (show ¬ σC.1 8 s = 6 by rw [hk]; decide), if_neg (show ¬ σC.1 8 s = 7 by rw [hk]; decide), if_pos hk]
  obtain ⟨o1, o2, o3, o4, o5, o6, o7, o8, o9, o10, o11⟩ := PR_okS h.1 hs
  have ha := o2 (by rw [hk]; decide)
  have hb := o5 (by rw [hk]; decide)
  have hc := o8 (by rw [hk]; decide)
  clear o1 o2 o3 o4 o5 o6 o7 o8 o9 o10 o11
  obtain ⟨va, hva⟩ : ∃ x : Nat, σC.1 9 s = x := ⟨Int.toNat (σC.1 9 s), by omega⟩
  obtain ⟨vb', hvb'⟩ : ∃ x : Nat, σC.1 10 s = x := ⟨Int.toNat (σC.1 10 s), by omega⟩
  obtain ⟨vc, hvc⟩ : ∃ x : Nat, σC.1 11 s = x := ⟨Int.toNat (σC.1 11 s), by omega⟩
  obtain ⟨d1, d2⟩ := h.2.2.2.2.1 n vb' hn (by omega)
  obtain ⟨σ1, τ1, q1, q2, q3, q4⟩ := hold_sim ho h hn (show va < 8 by omega) (x := τ.2 16 (8 * n + vb') &&& σC.2 (o + 4) vc) (fun i hi => by rw [lb_and, Bool.and_eq_true] at hi; exact d2 i hi.1)
  rw [vb_in (by omega), hva, hvb', hvc, show Hs τ n (vb' : Int) = τ.2 16 (8 * n + vb') from rfl, e_setOf (by omega) (by omega), bind_s, d1, ck_pos (by omega), Int.toNat_natCast, g_below h d2 (by omega), bind_s, bind_id, bind_id]
  refine Gr_SFd ho h q3 (fun z => ⟨fun e => absurd e (by rw [hk]; decide), fun e => absurd e (by rw [hk]; decide), fun e => absurd e (by rw [hk]; decide), fun e => absurd e (by rw [hk]; decide), fun e => absurd e (by rw [hk]; decide), fun e => absurd e (by rw [hk]; decide), fun _ => (by unfold Cl8 Hs; rw [hva, hvb', hvc, Int.toNat_natCast, Int.toNat_natCast, Int.toNat_natCast]; exact fun i i1 i2 => HdM_sub q4 z i (by rw [lb_and, i1, Bool.true_and]; exact (h.2.2.2.2.2.2.2.1.1 vc i (by omega)).mpr ⟨d2 i i1, i2⟩)), fun e => absurd e (by rw [hk]; decide), fun e => absurd e (by rw [hk]; decide), fun e => absurd e (by rw [hk]; decide), fun e => absurd e (by rw [hk]; decide), fun e => absurd e (by rw [hk]; decide), fun e => absurd e (by rw [hk]; decide)⟩) q1 q2
theorem stp9 {o : Nat} (ho : o = 15 ∨ o = 29) {σC τ : Mm} (h : RF o σC τ) (h0 : τ.1 0 23 = 0) {n s : Nat} (hn : (n : Int) < τ.1 0 24) (hs : (s : Int) < σC.1 1 2) (how : σC.1 13 s = τ.1 13 n) (hk : σC.1 8 s = 9) : SFd o σC τ n s (f_X0_doStep o n s σC) (f_X7_goes n s τ) := by
  obtain ⟨⟨t1, t2, -⟩, s7, s8, s9, s10, s11⟩ := h.2.1
  have h12 := h.1.1.2.2.1
  have h10 := h.1.1.1
  obtain ⟨⟨-, -, p8, -⟩, -⟩ := h.1.2.2.2.2.2.1 s hs
  have hck : (0 : Int) ≤ (s : Int) ∧ (s : Int) < ((90 : Nat) : Int) := by omega
  unfold f_X0_doStep
  rw [ck_pos hck, ck_pos hck, ck_pos hck, ck_pos hck, Int.toNat_natCast, if_neg (show ¬ σC.1 8 s = 0 by rw [hk]; decide), if_neg (show ¬ σC.1 8 s = 1 by rw [hk]; decide), if_neg (show ¬ σC.1 8 s = 2 by rw [hk]; decide), if_neg (show ¬ σC.1 8 s = 3 by rw [hk]; decide), if_neg (show ¬ σC.1 8 s = 4 by rw [hk]; decide), if_neg (show ¬ σC.1 8 s = 5 by rw [hk]; decide), if_neg (show ¬ σC.1 8 s = 6 by rw [hk]; decide), if_neg (show ¬ σC.1 8 s = 7 by rw [hk]; decide), if_neg (show ¬ σC.1 8 s = 8 by rw [hk]; decide), if_pos hk]
  rw [g_goes h hn hs]
  unfold f_X7_goes_71
  rw [ck_pos hck, Int.toNat_natCast, p8, if_neg (show ¬ σC.1 8 s = 0 by rw [hk]; decide), if_neg (show ¬ σC.1 8 s = 1 by rw [hk]; decide), if_neg (show ¬ σC.1 8 s = 2 by rw [hk]; decide), if_neg (show ¬ σC.1 8 s = 3 by rw [hk]; decide), if_neg (show ¬ σC.1 8 s = 4 by rw [hk]; decide), if_neg (show ¬ σC.1 8 s = 5 by rw [hk]; decide), if_neg (show ¬ σC.1 8 s = 6 by rw [hk]; decide), if_neg (show ¬ σC.1 8 s = 7 by rw [hk]; decide), if_neg (show ¬ σC.1 8 s = 8 by rw [hk]; decide), if_pos hk]
  obtain ⟨o1, o2, o3, o4, o5, o6, o7, o8, o9, o10, o11⟩ := PR_okS h.1 hs
  have ha := o2 (by rw [hk]; decide)
  have hb := o5 (by rw [hk]; decide)
  have hc := o7 (by rw [hk]; decide)
  clear o1 o2 o3 o4 o5 o6 o7 o8 o9 o10 o11
  obtain ⟨vb', hvb'⟩ : ∃ x : Nat, σC.1 10 s = x := ⟨Int.toNat (σC.1 10 s), by omega⟩
  obtain ⟨d1, d2⟩ := h.2.2.2.2.1 n vb' hn (by omega)
  obtain ⟨σ1, τ1, q1, q2, q3⟩ := ask_aux ho (n := n) (s := s) (bits := τ.2 16 (8 * n + vb')) (N := Int.toNat (τ.1 0 29)) (by omega) (cs := σC.1 11 s) (Int.toNat (τ.1 0 29)) 2000 0 σC τ h h0 hn hs how hk rfl (by omega) (fun i hi => by rw [hvb', Int.toNat_natCast]; exact hi) (by omega) (by omega)
  rw [show ((0 : Nat) : Int) = 0 from rfl] at q1 q2
  rw [vb_in (by omega), bind_id, hvb', show Hs τ n (vb' : Int) = τ.2 16 (8 * n + vb') from rfl]
  refine ⟨σ1, τ1, ?_, q2, ?_⟩
  · unfold f_X0_doAsk
    rw [ck_pos (by omega), Int.toNat_natCast, hvb', e_setOf (by omega) (by omega), bind_s, d1, q1]
  · rcases q3 with ⟨q3, q4, q5⟩ | q3
    · exact Or.inl ⟨q3, q4, fun z => ⟨fun e => absurd e (by rw [hk]; decide), fun e => absurd e (by rw [hk]; decide), fun e => absurd e (by rw [hk]; decide), fun e => absurd e (by rw [hk]; decide), fun e => absurd e (by rw [hk]; decide), fun e => absurd e (by rw [hk]; decide), fun e => absurd e (by rw [hk]; decide), fun _ => (by unfold Cl9 Hs; rw [hvb', Int.toNat_natCast]; exact fun y y1 y2 y3 => q5 z y (by omega) y2 y3), fun e => absurd e (by rw [hk]; decide), fun e => absurd e (by rw [hk]; decide), fun e => absurd e (by rw [hk]; decide), fun e => absurd e (by rw [hk]; decide), fun e => absurd e (by rw [hk]; decide)⟩⟩
    · exact Or.inr q3
theorem stp10 {o : Nat} (ho : o = 15 ∨ o = 29) {σC τ : Mm} (h : RF o σC τ) (h0 : τ.1 0 23 = 0) {n s : Nat} (hn : (n : Int) < τ.1 0 24) (hs : (s : Int) < σC.1 1 2) (how : σC.1 13 s = τ.1 13 n) (hk : σC.1 8 s = 10) : SFd o σC τ n s (f_X0_doStep o n s σC) (f_X7_goes n s τ) := by
  obtain ⟨⟨t1, t2, -⟩, s7, s8, s9, s10, s11⟩ := h.2.1
  have h12 := h.1.1.2.2.1
  have h10 := h.1.1.1
  obtain ⟨⟨-, -, p8, -⟩, -⟩ := h.1.2.2.2.2.2.1 s hs
  have hck : (0 : Int) ≤ (s : Int) ∧ (s : Int) < ((90 : Nat) : Int) := by omega
  unfold f_X0_doStep
  rw [ck_pos hck, ck_pos hck, ck_pos hck, ck_pos hck, Int.toNat_natCast, if_neg (show ¬ σC.1 8 s = 0 by rw [hk]; decide), if_neg (show ¬ σC.1 8 s = 1 by rw [hk]; decide), if_neg (show ¬ σC.1 8 s = 2 by rw [hk]; decide), if_neg (show ¬ σC.1 8 s = 3 by rw [hk]; decide), if_neg (show ¬ σC.1 8 s = 4 by rw [hk]; decide), if_neg (show ¬ σC.1 8 s = 5 by rw [hk]; decide), if_neg (show ¬ σC.1 8 s = 6 by rw [hk]; decide), if_neg (show ¬ σC.1 8 s = 7 by rw [hk]; decide), if_neg (show ¬ σC.1 8 s = 8 by rw [hk]; decide), if_neg (show ¬ σC.1 8 s = 9 by rw [hk]; decide), if_pos hk]
  rw [g_goes h hn hs]
  unfold f_X7_goes_71
  rw [ck_pos hck, Int.toNat_natCast, p8, if_neg (show ¬ σC.1 8 s = 0 by rw [hk]; decide), if_neg (show ¬ σC.1 8 s = 1 by rw [hk]; decide), if_neg (show ¬ σC.1 8 s = 2 by rw [hk]; decide), if_neg (show ¬ σC.1 8 s = 3 by rw [hk]; decide), if_neg (show ¬ σC.1 8 s = 4 by rw [hk]; decide), if_neg (show ¬ σC.1 8 s = 5 by rw [hk]; decide), if_neg (show ¬ σC.1 8 s = 6 by rw [hk]; decide), if_neg (show ¬ σC.1 8 s = 7 by rw [hk]; decide), if_neg (show ¬ σC.1 8 s = 8 by rw [hk]; decide), if_neg (show ¬ σC.1 8 s = 9 by rw [hk]; decide), if_pos hk]
  obtain ⟨o1, o2, o3, o4, o5, o6, o7, o8, o9, o10, o11⟩ := PR_okS h.1 hs
  have ha := o2 (by rw [hk]; decide)
  clear o1 o2 o3 o4 o5 o6 o7 o8 o9 o10 o11
  obtain ⟨σ1, τ1, q1, q2, q3⟩ := call_sim ho h h0 hn hs how hk
  rw [bind_id]
  refine ⟨σ1, τ1, q1, q2, ?_⟩
  rcases q3 with ⟨q3, q4, q5⟩ | q3
  · exact Or.inl ⟨q3, q4, fun z => ⟨fun e => absurd e (by rw [hk]; decide), fun e => absurd e (by rw [hk]; decide), fun e => absurd e (by rw [hk]; decide), fun e => absurd e (by rw [hk]; decide), fun e => absurd e (by rw [hk]; decide), fun e => absurd e (by rw [hk]; decide), fun e => absurd e (by rw [hk]; decide), fun e => absurd e (by rw [hk]; decide), fun _ => q5 z, fun e => absurd e (by rw [hk]; decide), fun e => absurd e (by rw [hk]; decide), fun e => absurd e (by rw [hk]; decide), fun e => absurd e (by rw [hk]; decide)⟩⟩
  · exact Or.inr q3
theorem stp11 {o : Nat} (ho : o = 15 ∨ o = 29) {σC τ : Mm} (h : RF o σC τ) (h0 : τ.1 0 23 = 0) {n s : Nat} (hn : (n : Int) < τ.1 0 24) (hs : (s : Int) < σC.1 1 2) (how : σC.1 13 s = τ.1 13 n) (hk : σC.1 8 s = 11) : SFd o σC τ n s (f_X0_doStep o n s σC) (f_X7_goes n s τ) := by
  obtain ⟨⟨t1, t2, -⟩, s7, s8, s9, s10, s11⟩ := h.2.1
  have h12 := h.1.1.2.2.1
  have h10 := h.1.1.1
  obtain ⟨⟨-, -, p8, -⟩, -⟩ := h.1.2.2.2.2.2.1 s hs
  have hck : (0 : Int) ≤ (s : Int) ∧ (s : Int) < ((90 : Nat) : Int) := by omega
  unfold f_X0_doStep
  rw [ck_pos hck, ck_pos hck, ck_pos hck, ck_pos hck, Int.toNat_natCast, if_neg (show ¬ σC.1 8 s = 0 by rw [hk]; decide), if_neg (show ¬ σC.1 8 s = 1 by rw [hk]; decide), if_neg (show ¬ σC.1 8 s = 2 by rw [hk]; decide), if_neg (show ¬ σC.1 8 s = 3 by rw [hk]; decide), if_neg (show ¬ σC.1 8 s = 4 by rw [hk]; decide), if_neg (show ¬ σC.1 8 s = 5 by rw [hk]; decide), if_neg (show ¬ σC.1 8 s = 6 by rw [hk]; decide), if_neg (show ¬ σC.1 8 s = 7 by rw [hk]; decide), if_neg (show ¬ σC.1 8 s = 8 by rw [hk]; decide), if_neg (show ¬ σC.1 8 s = 9 by rw [hk]; decide), if_neg (show ¬ σC.1 8 s = 10 by rw [hk]; decide), if_pos hk]
  rw [g_goes h hn hs]
  unfold f_X7_goes_71
  rw [ck_pos hck, Int.toNat_natCast, p8, if_neg (show ¬ σC.1 8 s = 0 by rw [hk]; decide), if_neg (show ¬ σC.1 8 s = 1 by rw [hk]; decide), if_neg (show ¬ σC.1 8 s = 2 by rw [hk]; decide), if_neg (show ¬ σC.1 8 s = 3 by rw [hk]; decide), if_neg (show ¬ σC.1 8 s = 4 by rw [hk]; decide), if_neg (show ¬ σC.1 8 s = 5 by rw [hk]; decide), if_neg (show ¬ σC.1 8 s = 6 by rw [hk]; decide), if_neg (show ¬ σC.1 8 s = 7 by rw [hk]; decide), if_neg (show ¬ σC.1 8 s = 8 by rw [hk]; decide), if_neg (show ¬ σC.1 8 s = 9 by rw [hk]; decide), if_neg (show ¬ σC.1 8 s = 10 by rw [hk]; decide), if_pos hk]
  obtain ⟨o1, o2, o3, o4, o5, o6, o7, o8, o9, o10, o11⟩ := PR_okS h.1 hs
  have ha := o2 (by rw [hk]; decide)
  clear o1 o2 o3 o4 o5 o6 o7 o8 o9 o10 o11
  obtain ⟨va, hva⟩ : ∃ x : Nat, σC.1 9 s = x := ⟨Int.toNat (σC.1 9 s), by omega⟩
  obtain ⟨d1, d2⟩ := h.2.2.2.2.1 n va hn (by omega)
  obtain ⟨σ1, τ1, q1, q2, q3, q4⟩ := hold_sim ho h hn (show 6 < 8 by omega) (x := τ.2 16 (8 * n + va)) d2
  rw [show ((6 : Nat) : Int) = 6 from rfl] at q1 q2
  rw [vb_in (v := σC.1 9 s) (by omega), bind_id, hva, show Hs τ n (va : Int) = τ.2 16 (8 * n + va) from rfl, e_setOf (by omega) (by omega), bind_s, bind_id, d1]
  refine Gr_SFd ho h q3 (fun z => ⟨fun e => absurd e (by rw [hk]; decide), fun e => absurd e (by rw [hk]; decide), fun e => absurd e (by rw [hk]; decide), fun e => absurd e (by rw [hk]; decide), fun e => absurd e (by rw [hk]; decide), fun e => absurd e (by rw [hk]; decide), fun e => absurd e (by rw [hk]; decide), fun e => absurd e (by rw [hk]; decide), fun e => absurd e (by rw [hk]; decide), fun _ => (by unfold Cl11 Hs; rw [hva, Int.toNat_natCast]; exact HdM_sub q4 z), fun e => absurd e (by rw [hk]; decide), fun e => absurd e (by rw [hk]; decide), fun e => absurd e (by rw [hk]; decide)⟩) q1 q2
theorem stp12 {o : Nat} (ho : o = 15 ∨ o = 29) {σC τ : Mm} (h : RF o σC τ) (h0 : τ.1 0 23 = 0) {n s : Nat} (hn : (n : Int) < τ.1 0 24) (hs : (s : Int) < σC.1 1 2) (how : σC.1 13 s = τ.1 13 n) (hk : σC.1 8 s = 12) : SFd o σC τ n s (f_X0_doStep o n s σC) (f_X7_goes n s τ) := by
  obtain ⟨⟨t1, t2, -⟩, s7, s8, s9, s10, s11⟩ := h.2.1
  have h12 := h.1.1.2.2.1
  have h10 := h.1.1.1
  obtain ⟨⟨-, -, p8, -⟩, -⟩ := h.1.2.2.2.2.2.1 s hs
  have hck : (0 : Int) ≤ (s : Int) ∧ (s : Int) < ((90 : Nat) : Int) := by omega
  unfold f_X0_doStep
  rw [ck_pos hck, ck_pos hck, ck_pos hck, ck_pos hck, Int.toNat_natCast, if_neg (show ¬ σC.1 8 s = 0 by rw [hk]; decide), if_neg (show ¬ σC.1 8 s = 1 by rw [hk]; decide), if_neg (show ¬ σC.1 8 s = 2 by rw [hk]; decide), if_neg (show ¬ σC.1 8 s = 3 by rw [hk]; decide), if_neg (show ¬ σC.1 8 s = 4 by rw [hk]; decide), if_neg (show ¬ σC.1 8 s = 5 by rw [hk]; decide), if_neg (show ¬ σC.1 8 s = 6 by rw [hk]; decide), if_neg (show ¬ σC.1 8 s = 7 by rw [hk]; decide), if_neg (show ¬ σC.1 8 s = 8 by rw [hk]; decide), if_neg (show ¬ σC.1 8 s = 9 by rw [hk]; decide), if_neg (show ¬ σC.1 8 s = 10 by rw [hk]; decide), if_neg (show ¬ σC.1 8 s = 11 by rw [hk]; decide), if_pos hk]
  rw [g_goes h hn hs]
  unfold f_X7_goes_71
  rw [ck_pos hck, Int.toNat_natCast, p8, if_neg (show ¬ σC.1 8 s = 0 by rw [hk]; decide), if_neg (show ¬ σC.1 8 s = 1 by rw [hk]; decide), if_neg (show ¬ σC.1 8 s = 2 by rw [hk]; decide), if_neg (show ¬ σC.1 8 s = 3 by rw [hk]; decide), if_neg (show ¬ σC.1 8 s = 4 by rw [hk]; decide), if_neg (show ¬ σC.1 8 s = 5 by rw [hk]; decide), if_neg (show ¬ σC.1 8 s = 6 by rw [hk]; decide), if_neg (show ¬ σC.1 8 s = 7 by rw [hk]; decide), if_neg (show ¬ σC.1 8 s = 8 by rw [hk]; decide), if_neg (show ¬ σC.1 8 s = 9 by rw [hk]; decide), if_neg (show ¬ σC.1 8 s = 10 by rw [hk]; decide), if_neg (show ¬ σC.1 8 s = 11 by rw [hk]; decide), if_pos hk]
  obtain ⟨o1, o2, o3, o4, o5, o6, o7, o8, o9, o10, o11⟩ := PR_okS h.1 hs
  clear o1 o2 o3 o4 o5 o6 o7 o8 o9 o10 o11
  refine Gr_SFd ho h (Gr.rf h) (fun z => ⟨fun e => absurd e (by rw [hk]; decide), fun e => absurd e (by rw [hk]; decide), fun e => absurd e (by rw [hk]; decide), fun e => absurd e (by rw [hk]; decide), fun e => absurd e (by rw [hk]; decide), fun e => absurd e (by rw [hk]; decide), fun e => absurd e (by rw [hk]; decide), fun e => absurd e (by rw [hk]; decide), fun e => absurd e (by rw [hk]; decide), fun e => absurd e (by rw [hk]; decide), fun e => absurd e (by rw [hk]; decide), fun e => absurd e (by rw [hk]; decide), fun e => absurd e (by rw [hk]; decide)⟩) rfl rfl
theorem stp13 {o : Nat} (ho : o = 15 ∨ o = 29) {σC τ : Mm} (h : RF o σC τ) (h0 : τ.1 0 23 = 0) {n s : Nat} (hn : (n : Int) < τ.1 0 24) (hs : (s : Int) < σC.1 1 2) (how : σC.1 13 s = τ.1 13 n) (hk : σC.1 8 s = 13) : SFd o σC τ n s (f_X0_doStep o n s σC) (f_X7_goes n s τ) := by
  obtain ⟨⟨t1, t2, -⟩, s7, s8, s9, s10, s11⟩ := h.2.1
  have h12 := h.1.1.2.2.1
  have h10 := h.1.1.1
  obtain ⟨⟨-, -, p8, -⟩, -⟩ := h.1.2.2.2.2.2.1 s hs
  have hck : (0 : Int) ≤ (s : Int) ∧ (s : Int) < ((90 : Nat) : Int) := by omega
  unfold f_X0_doStep
  rw [ck_pos hck, ck_pos hck, ck_pos hck, ck_pos hck, Int.toNat_natCast, if_neg (show ¬ σC.1 8 s = 0 by rw [hk]; decide), if_neg (show ¬ σC.1 8 s = 1 by rw [hk]; decide), if_neg (show ¬ σC.1 8 s = 2 by rw [hk]; decide), if_neg (show ¬ σC.1 8 s = 3 by rw [hk]; decide), if_neg (show ¬ σC.1 8 s = 4 by rw [hk]; decide), if_neg (show ¬ σC.1 8 s = 5 by rw [hk]; decide), if_neg (show ¬ σC.1 8 s = 6 by rw [hk]; decide), if_neg (show ¬ σC.1 8 s = 7 by rw [hk]; decide), if_neg (show ¬ σC.1 8 s = 8 by rw [hk]; decide), if_neg (show ¬ σC.1 8 s = 9 by rw [hk]; decide), if_neg (show ¬ σC.1 8 s = 10 by rw [hk]; decide), if_neg (show ¬ σC.1 8 s = 11 by rw [hk]; decide), if_neg (show ¬ σC.1 8 s = 12 by rw [hk]; decide), if_pos hk]
  rw [g_goes h hn hs]
  unfold f_X7_goes_71
  rw [ck_pos hck, Int.toNat_natCast, p8, if_neg (show ¬ σC.1 8 s = 0 by rw [hk]; decide), if_neg (show ¬ σC.1 8 s = 1 by rw [hk]; decide), if_neg (show ¬ σC.1 8 s = 2 by rw [hk]; decide), if_neg (show ¬ σC.1 8 s = 3 by rw [hk]; decide), if_neg (show ¬ σC.1 8 s = 4 by rw [hk]; decide), if_neg (show ¬ σC.1 8 s = 5 by rw [hk]; decide), if_neg (show ¬ σC.1 8 s = 6 by rw [hk]; decide), if_neg (show ¬ σC.1 8 s = 7 by rw [hk]; decide), if_neg (show ¬ σC.1 8 s = 8 by rw [hk]; decide), if_neg (show ¬ σC.1 8 s = 9 by rw [hk]; decide), if_neg (show ¬ σC.1 8 s = 10 by rw [hk]; decide), if_neg (show ¬ σC.1 8 s = 11 by rw [hk]; decide), if_neg (show ¬ σC.1 8 s = 12 by rw [hk]; decide), if_pos hk]
  obtain ⟨o1, o2, o3, o4, o5, o6, o7, o8, o9, o10, o11⟩ := PR_okS h.1 hs
  have ha := o2 (by rw [hk]; decide)
  have hc := o6 (by rw [hk]; decide)
  clear o1 o2 o3 o4 o5 o6 o7 o8 o9 o10 o11
  obtain ⟨va, hva⟩ : ∃ x : Nat, σC.1 9 s = x := ⟨Int.toNat (σC.1 9 s), by omega⟩
  obtain ⟨vc, hvc⟩ : ∃ x : Nat, σC.1 11 s = x := ⟨Int.toNat (σC.1 11 s), by omega⟩
  obtain ⟨d1, d2⟩ := h.2.2.2.2.1 n va hn (by omega)
  obtain ⟨σ1, c1, c2⟩ := e_addToGlobal (o := o) (σ := σC) (g := vc) (by omega) (τ.2 16 (8 * n + va))
  rw [vb_in (v := σC.1 9 s) (by omega), hva, hvc, show Hs τ n (va : Int) = τ.2 16 (8 * n + va) from rfl, e_setOf (by omega) (by omega), bind_s, bind_id, d1, Int.toNat_natCast]
  generalize hX : τ.2 16 (8 * n + va) = X at *
  have hput : ∃ τ1, (if (τ.1 0 22) = 0 then ck ((0 : Int) ≤ (vc : Int) ∧ (vc : Int) < ((4 : Nat) : Int)) (ck ((0 : Int) ≤ (vc : Int) ∧ (vc : Int) < ((4 : Nat) : Int)) ((if ((τ.2 20 vc) ||| X) = (τ.2 20 vc) then ck ((0 : Int) ≤ (vc : Int) ∧ (vc : Int) < ((4 : Nat) : Int)) (ck ((0 : Int) ≤ (vc : Int) ∧ (vc : Int) < ((4 : Nat) : Int)) ((some (stL (stI τ 0 22 0) 20 vc (((stI τ 0 22 0).2 20 vc) ||| X))).bind (fun σ139 => some σ139))) else ck ((0 : Int) ≤ (vc : Int) ∧ (vc : Int) < ((4 : Nat) : Int)) (ck ((0 : Int) ≤ (vc : Int) ∧ (vc : Int) < ((4 : Nat) : Int)) ((some (stL (stI τ 0 22 1) 20 vc (((stI τ 0 22 1).2 20 vc) ||| X))).bind (fun σ140 => some σ140)))))) else ck ((0 : Int) ≤ (vc : Int) ∧ (vc : Int) < ((4 : Nat) : Int)) (ck ((0 : Int) ≤ (vc : Int) ∧ (vc : Int) < ((4 : Nat) : Int)) ((some (stL (stI τ 0 22 1) 20 vc (((stI τ 0 22 1).2 20 vc) ||| X))).bind (fun σ141 => some σ141)))) = some τ1 ∧ HdM τ τ1 20 vc X := by
    have hck : (0 : Int) ≤ (vc : Int) ∧ (vc : Int) < ((4 : Nat) : Int) := by omega
    simp only [ck_pos hck, bind_s]
    have done : ∀ z : Int, (z = if ((τ.2 20 vc) ||| X) = (τ.2 20 vc) then τ.1 0 22 else 1) → HdM τ (stL (stI τ 0 22 z) 20 vc (((stI τ 0 22 z).2 20 vc) ||| X)) 20 vc X := fun z hz => by
      refine ⟨fun k i hk' => ?_, ?_, fun k i hk' => ?_, ?_⟩
      · rw [stL_1, stI_1, if_neg hk']
      · rw [stL_2, if_pos ⟨rfl, rfl⟩, stI_2]
      · rw [stL_2, if_neg hk', stI_2]
      · rw [stL_1, stI_1, if_pos ⟨rfl, rfl⟩, hz]
    by_cases hm : τ.1 0 22 = 0
    · rw [if_pos hm]
      by_cases he : ((τ.2 20 vc) ||| X) = (τ.2 20 vc)
      · rw [if_pos he]; exact ⟨_, rfl, done 0 (by rw [if_pos he, hm])⟩
      · rw [if_neg he]; exact ⟨_, rfl, done 1 (by rw [if_neg he])⟩
    · rw [if_neg hm]
      exact ⟨_, rfl, done 1 (by split <;> omega)⟩
  obtain ⟨τ1, m1, m2⟩ := hput
  have g : Gr o σC τ σ1 τ1 := ⟨RF_hd ho h d2 c2 m2 (Or.inr (Or.inr ⟨rfl, rfl, by omega⟩)), HdM_Up m2 (Or.inr (Or.inr ⟨rfl, by omega⟩)), m2.1, c2.1, HdC_CF (by omega) c2, by funext i; exact c2.2.2.1 _ i (by omega), by funext i; exact c2.2.2.1 _ i (by omega)⟩
  refine Gr_SFd ho h g (fun z => ⟨fun e => absurd e (by rw [hk]; decide), fun e => absurd e (by rw [hk]; decide), fun e => absurd e (by rw [hk]; decide), fun e => absurd e (by rw [hk]; decide), fun e => absurd e (by rw [hk]; decide), fun e => absurd e (by rw [hk]; decide), fun e => absurd e (by rw [hk]; decide), fun e => absurd e (by rw [hk]; decide), fun e => absurd e (by rw [hk]; decide), fun e => absurd e (by rw [hk]; decide), fun _ => (by unfold Cl13 Hs; rw [hva, hvc, Int.toNat_natCast, Int.toNat_natCast, hX]; exact HdM_sub m2 z), fun e => absurd e (by rw [hk]; decide), fun e => absurd e (by rw [hk]; decide)⟩) c1 m1
theorem stp14 {o : Nat} (ho : o = 15 ∨ o = 29) {σC τ : Mm} (h : RF o σC τ) (h0 : τ.1 0 23 = 0) {n s : Nat} (hn : (n : Int) < τ.1 0 24) (hs : (s : Int) < σC.1 1 2) (how : σC.1 13 s = τ.1 13 n) (hk : σC.1 8 s = 14) : SFd o σC τ n s (f_X0_doStep o n s σC) (f_X7_goes n s τ) := by
  obtain ⟨⟨t1, t2, -⟩, s7, s8, s9, s10, s11⟩ := h.2.1
  have h12 := h.1.1.2.2.1
  have h10 := h.1.1.1
  obtain ⟨⟨-, -, p8, -⟩, -⟩ := h.1.2.2.2.2.2.1 s hs
  have hck : (0 : Int) ≤ (s : Int) ∧ (s : Int) < ((90 : Nat) : Int) := by omega
  unfold f_X0_doStep
  rw [ck_pos hck, ck_pos hck, ck_pos hck, ck_pos hck, Int.toNat_natCast, if_neg (show ¬ σC.1 8 s = 0 by rw [hk]; decide), if_neg (show ¬ σC.1 8 s = 1 by rw [hk]; decide), if_neg (show ¬ σC.1 8 s = 2 by rw [hk]; decide), if_neg (show ¬ σC.1 8 s = 3 by rw [hk]; decide), if_neg (show ¬ σC.1 8 s = 4 by rw [hk]; decide), if_neg (show ¬ σC.1 8 s = 5 by rw [hk]; decide), if_neg (show ¬ σC.1 8 s = 6 by rw [hk]; decide), if_neg (show ¬ σC.1 8 s = 7 by rw [hk]; decide), if_neg (show ¬ σC.1 8 s = 8 by rw [hk]; decide), if_neg (show ¬ σC.1 8 s = 9 by rw [hk]; decide), if_neg (show ¬ σC.1 8 s = 10 by rw [hk]; decide), if_neg (show ¬ σC.1 8 s = 11 by rw [hk]; decide), if_neg (show ¬ σC.1 8 s = 12 by rw [hk]; decide), if_neg (show ¬ σC.1 8 s = 13 by rw [hk]; decide), if_pos hk]
  rw [g_goes h hn hs]
  unfold f_X7_goes_71
  rw [ck_pos hck, Int.toNat_natCast, p8, if_neg (show ¬ σC.1 8 s = 0 by rw [hk]; decide), if_neg (show ¬ σC.1 8 s = 1 by rw [hk]; decide), if_neg (show ¬ σC.1 8 s = 2 by rw [hk]; decide), if_neg (show ¬ σC.1 8 s = 3 by rw [hk]; decide), if_neg (show ¬ σC.1 8 s = 4 by rw [hk]; decide), if_neg (show ¬ σC.1 8 s = 5 by rw [hk]; decide), if_neg (show ¬ σC.1 8 s = 6 by rw [hk]; decide), if_neg (show ¬ σC.1 8 s = 7 by rw [hk]; decide), if_neg (show ¬ σC.1 8 s = 8 by rw [hk]; decide), if_neg (show ¬ σC.1 8 s = 9 by rw [hk]; decide), if_neg (show ¬ σC.1 8 s = 10 by rw [hk]; decide), if_neg (show ¬ σC.1 8 s = 11 by rw [hk]; decide), if_neg (show ¬ σC.1 8 s = 12 by rw [hk]; decide), if_neg (show ¬ σC.1 8 s = 13 by rw [hk]; decide), if_pos hk]
  obtain ⟨o1, o2, o3, o4, o5, o6, o7, o8, o9, o10, o11⟩ := PR_okS h.1 hs
  have ha := o2 (by rw [hk]; decide)
  have hc := o6 (by rw [hk]; decide)
  clear o1 o2 o3 o4 o5 o6 o7 o8 o9 o10 o11
  obtain ⟨va, hva⟩ : ∃ x : Nat, σC.1 9 s = x := ⟨Int.toNat (σC.1 9 s), by omega⟩
  obtain ⟨vc, hvc⟩ : ∃ x : Nat, σC.1 11 s = x := ⟨Int.toNat (σC.1 11 s), by omega⟩
  obtain ⟨d1, d2⟩ := h.2.2.2.2.2.2.1 vc (by omega)
  obtain ⟨σ1, τ1, q1, q2, q3, q4⟩ := hold_sim ho h hn (show va < 8 by omega) (x := τ.2 20 vc) d2
  rw [hva, hvc, ck_pos (by omega), ck_pos (by omega), Int.toNat_natCast, d1, bind_id, bind_id]
  refine Gr_SFd ho h q3 (fun z => ⟨fun e => absurd e (by rw [hk]; decide), fun e => absurd e (by rw [hk]; decide), fun e => absurd e (by rw [hk]; decide), fun e => absurd e (by rw [hk]; decide), fun e => absurd e (by rw [hk]; decide), fun e => absurd e (by rw [hk]; decide), fun e => absurd e (by rw [hk]; decide), fun e => absurd e (by rw [hk]; decide), fun e => absurd e (by rw [hk]; decide), fun e => absurd e (by rw [hk]; decide), fun e => absurd e (by rw [hk]; decide), fun _ => (by unfold Cl14 Hs; rw [hva, hvc, Int.toNat_natCast, Int.toNat_natCast]; exact HdM_sub q4 z), fun e => absurd e (by rw [hk]; decide)⟩) q1 q2
theorem stp15 {o : Nat} (ho : o = 15 ∨ o = 29) {σC τ : Mm} (h : RF o σC τ) (h0 : τ.1 0 23 = 0) {n s : Nat} (hn : (n : Int) < τ.1 0 24) (hs : (s : Int) < σC.1 1 2) (how : σC.1 13 s = τ.1 13 n) (hk : σC.1 8 s = 15) : SFd o σC τ n s (f_X0_doStep o n s σC) (f_X7_goes n s τ) := by
  obtain ⟨⟨t1, t2, -⟩, s7, s8, s9, s10, s11⟩ := h.2.1
  have h12 := h.1.1.2.2.1
  have h10 := h.1.1.1
  obtain ⟨⟨-, -, p8, -⟩, -⟩ := h.1.2.2.2.2.2.1 s hs
  have hck : (0 : Int) ≤ (s : Int) ∧ (s : Int) < ((90 : Nat) : Int) := by omega
  unfold f_X0_doStep
  rw [ck_pos hck, ck_pos hck, ck_pos hck, ck_pos hck, Int.toNat_natCast, if_neg (show ¬ σC.1 8 s = 0 by rw [hk]; decide), if_neg (show ¬ σC.1 8 s = 1 by rw [hk]; decide), if_neg (show ¬ σC.1 8 s = 2 by rw [hk]; decide), if_neg (show ¬ σC.1 8 s = 3 by rw [hk]; decide), if_neg (show ¬ σC.1 8 s = 4 by rw [hk]; decide), if_neg (show ¬ σC.1 8 s = 5 by rw [hk]; decide), if_neg (show ¬ σC.1 8 s = 6 by rw [hk]; decide), if_neg (show ¬ σC.1 8 s = 7 by rw [hk]; decide), if_neg (show ¬ σC.1 8 s = 8 by rw [hk]; decide), if_neg (show ¬ σC.1 8 s = 9 by rw [hk]; decide), if_neg (show ¬ σC.1 8 s = 10 by rw [hk]; decide), if_neg (show ¬ σC.1 8 s = 11 by rw [hk]; decide), if_neg (show ¬ σC.1 8 s = 12 by rw [hk]; decide), if_neg (show ¬ σC.1 8 s = 13 by rw [hk]; decide), if_neg (show ¬ σC.1 8 s = 14 by rw [hk]; decide), if_pos hk]
  rw [g_goes h hn hs]
  unfold f_X7_goes_71
  rw [ck_pos hck, Int.toNat_natCast, p8, if_neg (show ¬ σC.1 8 s = 0 by rw [hk]; decide), if_neg (show ¬ σC.1 8 s = 1 by rw [hk]; decide), if_neg (show ¬ σC.1 8 s = 2 by rw [hk]; decide), if_neg (show ¬ σC.1 8 s = 3 by rw [hk]; decide), if_neg (show ¬ σC.1 8 s = 4 by rw [hk]; decide), if_neg (show ¬ σC.1 8 s = 5 by rw [hk]; decide), if_neg (show ¬ σC.1 8 s = 6 by rw [hk]; decide), if_neg (show ¬ σC.1 8 s = 7 by rw [hk]; decide), if_neg (show ¬ σC.1 8 s = 8 by rw [hk]; decide), if_neg (show ¬ σC.1 8 s = 9 by rw [hk]; decide), if_neg (show ¬ σC.1 8 s = 10 by rw [hk]; decide), if_neg (show ¬ σC.1 8 s = 11 by rw [hk]; decide), if_neg (show ¬ σC.1 8 s = 12 by rw [hk]; decide), if_neg (show ¬ σC.1 8 s = 13 by rw [hk]; decide), if_neg (show ¬ σC.1 8 s = 14 by rw [hk]; decide), if_pos hk]
  obtain ⟨o1, o2, o3, o4, o5, o6, o7, o8, o9, o10, o11⟩ := PR_okS h.1 hs
  have ha := o2 (by rw [hk]; decide)
  clear o1 o2 o3 o4 o5 o6 o7 o8 o9 o10 o11
  obtain ⟨va, hva⟩ : ∃ x : Nat, σC.1 9 s = x := ⟨Int.toNat (σC.1 9 s), by omega⟩
  obtain ⟨d1, d2⟩ := h.2.2.2.2.1 n va hn (by omega)
  obtain ⟨σ1, τ1, q1, q2, q3, q4⟩ := raise_sim ho h hn hs how d2
  rw [vb_in (v := σC.1 9 s) (by omega), bind_id, hva, show Hs τ n (va : Int) = τ.2 16 (8 * n + va) from rfl, e_setOf (by omega) (by omega), bind_s, bind_id, d1]
  refine Gr_SFd ho h q3 (fun z => ⟨fun e => absurd e (by rw [hk]; decide), fun e => absurd e (by rw [hk]; decide), fun e => absurd e (by rw [hk]; decide), fun e => absurd e (by rw [hk]; decide), fun e => absurd e (by rw [hk]; decide), fun e => absurd e (by rw [hk]; decide), fun e => absurd e (by rw [hk]; decide), fun e => absurd e (by rw [hk]; decide), fun e => absurd e (by rw [hk]; decide), fun e => absurd e (by rw [hk]; decide), fun e => absurd e (by rw [hk]; decide), fun e => absurd e (by rw [hk]; decide), fun _ => (by rw [hva]; exact q4 z)⟩) q1 q2
theorem stp16 {o : Nat} (ho : o = 15 ∨ o = 29) {σC τ : Mm} (h : RF o σC τ) (h0 : τ.1 0 23 = 0) {n s : Nat} (hn : (n : Int) < τ.1 0 24) (hs : (s : Int) < σC.1 1 2) (how : σC.1 13 s = τ.1 13 n) (hk : σC.1 8 s = 16) : SFd o σC τ n s (f_X0_doStep o n s σC) (f_X7_goes n s τ) := by
  obtain ⟨⟨t1, t2, -⟩, s7, s8, s9, s10, s11⟩ := h.2.1
  have h12 := h.1.1.2.2.1
  have h10 := h.1.1.1
  obtain ⟨⟨-, -, p8, -⟩, -⟩ := h.1.2.2.2.2.2.1 s hs
  have hck : (0 : Int) ≤ (s : Int) ∧ (s : Int) < ((90 : Nat) : Int) := by omega
  unfold f_X0_doStep
  rw [ck_pos hck, ck_pos hck, ck_pos hck, ck_pos hck, Int.toNat_natCast, if_neg (show ¬ σC.1 8 s = 0 by rw [hk]; decide), if_neg (show ¬ σC.1 8 s = 1 by rw [hk]; decide), if_neg (show ¬ σC.1 8 s = 2 by rw [hk]; decide), if_neg (show ¬ σC.1 8 s = 3 by rw [hk]; decide), if_neg (show ¬ σC.1 8 s = 4 by rw [hk]; decide), if_neg (show ¬ σC.1 8 s = 5 by rw [hk]; decide), if_neg (show ¬ σC.1 8 s = 6 by rw [hk]; decide), if_neg (show ¬ σC.1 8 s = 7 by rw [hk]; decide), if_neg (show ¬ σC.1 8 s = 8 by rw [hk]; decide), if_neg (show ¬ σC.1 8 s = 9 by rw [hk]; decide), if_neg (show ¬ σC.1 8 s = 10 by rw [hk]; decide), if_neg (show ¬ σC.1 8 s = 11 by rw [hk]; decide), if_neg (show ¬ σC.1 8 s = 12 by rw [hk]; decide), if_neg (show ¬ σC.1 8 s = 13 by rw [hk]; decide), if_neg (show ¬ σC.1 8 s = 14 by rw [hk]; decide), if_neg (show ¬ σC.1 8 s = 15 by rw [hk]; decide)]
  rw [g_goes h hn hs]
  unfold f_X7_goes_71
  rw [ck_pos hck, Int.toNat_natCast, p8, if_neg (show ¬ σC.1 8 s = 0 by rw [hk]; decide), if_neg (show ¬ σC.1 8 s = 1 by rw [hk]; decide), if_neg (show ¬ σC.1 8 s = 2 by rw [hk]; decide), if_neg (show ¬ σC.1 8 s = 3 by rw [hk]; decide), if_neg (show ¬ σC.1 8 s = 4 by rw [hk]; decide), if_neg (show ¬ σC.1 8 s = 5 by rw [hk]; decide), if_neg (show ¬ σC.1 8 s = 6 by rw [hk]; decide), if_neg (show ¬ σC.1 8 s = 7 by rw [hk]; decide), if_neg (show ¬ σC.1 8 s = 8 by rw [hk]; decide), if_neg (show ¬ σC.1 8 s = 9 by rw [hk]; decide), if_neg (show ¬ σC.1 8 s = 10 by rw [hk]; decide), if_neg (show ¬ σC.1 8 s = 11 by rw [hk]; decide), if_neg (show ¬ σC.1 8 s = 12 by rw [hk]; decide), if_neg (show ¬ σC.1 8 s = 13 by rw [hk]; decide), if_neg (show ¬ σC.1 8 s = 14 by rw [hk]; decide), if_neg (show ¬ σC.1 8 s = 15 by rw [hk]; decide)]
  obtain ⟨o1, o2, o3, o4, o5, o6, o7, o8, o9, o10, o11⟩ := PR_okS h.1 hs
  have ha := o2 (by rw [hk]; decide)
  have hc := o8 (by rw [hk]; decide)
  clear o1 o2 o3 o4 o5 o6 o7 o8 o9 o10 o11
  refine Gr_SFd ho h (Gr.rf h) (fun z => ⟨fun e => absurd e (by rw [hk]; decide), fun e => absurd e (by rw [hk]; decide), fun e => absurd e (by rw [hk]; decide), fun e => absurd e (by rw [hk]; decide), fun e => absurd e (by rw [hk]; decide), fun e => absurd e (by rw [hk]; decide), fun e => absurd e (by rw [hk]; decide), fun e => absurd e (by rw [hk]; decide), fun e => absurd e (by rw [hk]; decide), fun e => absurd e (by rw [hk]; decide), fun e => absurd e (by rw [hk]; decide), fun e => absurd e (by rw [hk]; decide), fun e => absurd e (by rw [hk]; decide)⟩) rfl rfl
theorem stp_all {o : Nat} (ho : o = 15 ∨ o = 29) {σC τ : Mm} (h : RF o σC τ) (h0 : τ.1 0 23 = 0) {n s : Nat} (hn : (n : Int) < τ.1 0 24) (hs : (s : Int) < σC.1 1 2) (how : σC.1 13 s = τ.1 13 n) : SFd o σC τ n s (f_X0_doStep o n s σC) (f_X7_goes n s τ) := by
  obtain ⟨o1, -⟩ := PR_okS h.1 hs
  have hc : σC.1 8 s = 0 ∨ σC.1 8 s = 1 ∨ σC.1 8 s = 2 ∨ σC.1 8 s = 3 ∨ σC.1 8 s = 4 ∨ σC.1 8 s = 5 ∨ σC.1 8 s = 6 ∨ σC.1 8 s = 7 ∨ σC.1 8 s = 8 ∨ σC.1 8 s = 9 ∨ σC.1 8 s = 10 ∨ σC.1 8 s = 11 ∨ σC.1 8 s = 12 ∨ σC.1 8 s = 13 ∨ σC.1 8 s = 14 ∨ σC.1 8 s = 15 ∨ σC.1 8 s = 16 := by omega
  rcases hc with e | e | e | e | e | e | e | e | e | e | e | e | e | e | e | e | e
  · exact stp0 ho h h0 hn hs how e
  · exact stp1 ho h h0 hn hs how e
  · exact stp2 ho h h0 hn hs how e
  · exact stp3 ho h h0 hn hs how e
  · exact stp4 ho h h0 hn hs how e
  · exact stp5 ho h h0 hn hs how e
  · exact stp6 ho h h0 hn hs how e
  · exact stp7 ho h h0 hn hs how e
  · exact stp8 ho h h0 hn hs how e
  · exact stp9 ho h h0 hn hs how e
  · exact stp10 ho h h0 hn hs how e
  · exact stp11 ho h h0 hn hs how e
  · exact stp12 ho h h0 hn hs how e
  · exact stp13 ho h h0 hn hs how e
  · exact stp14 ho h h0 hn hs how e
  · exact stp15 ho h h0 hn hs how e
  · exact stp16 ho h h0 hn hs how e
