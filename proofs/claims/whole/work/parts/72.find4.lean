/-! steps in which only sets grow -/
def Gr (o : Nat) (σC τ σC' τ' : Mm) : Prop := RF o σC' τ' ∧ Up τ τ' ∧ (∀ k i, ¬ (k = 0 ∧ i = 22) → τ'.1 k i = τ.1 k i) ∧ (∀ k i, ¬ (k = o ∧ i = 7) → σC'.1 k i = σC.1 k i) ∧ CF o σC σC' ∧ σC'.2 (o + 4) = σC.2 (o + 4) ∧ σC'.2 o = σC.2 o
theorem Gr.rf {o : Nat} {σC τ : Mm} (h : RF o σC τ) : Gr o σC τ σC τ := ⟨h, Up.rf, fun _ _ _ => rfl, fun _ _ _ => rfl, CF.rf, rfl, rfl⟩
theorem Gr.tr {o : Nat} {a b c d e f : Mm} (h1 : Gr o a b c d) (h2 : Gr o c d e f) : Gr o a b e f := by
  obtain ⟨-, u1, m1, c1, f1, l1, k1⟩ := h1
  obtain ⟨r2, u2, m2, c2, f2, l2, k2⟩ := h2
  exact ⟨r2, u1.tr u2, fun k i hk => (m2 k i hk).trans (m1 k i hk), fun k i hk => (c2 k i hk).trans (c1 k i hk), f1.tr f2, l2.trans l1, k2.trans k1⟩
theorem hold_sim {o : Nat} (ho : o = 15 ∨ o = 29) {σC τ : Mm} (h : RF o σC τ) {n v : Nat} (hn : (n : Int) < τ.1 0 24) (hv : v < 8) {x : Int64} (hx : ∀ i, lb x i = true → (i : Int) < τ.1 0 29) : ∃ σC' τ', f_X0_addToVar o n v x σC = some σC' ∧ f_X7_holds n v x τ = some τ' ∧ Gr o σC τ σC' τ' ∧ HdM τ τ' 16 (8 * n + v) x := by
  obtain ⟨-, s7, s8, s9, s10, s11⟩ := h.2.1
  obtain ⟨σC', c1, c2⟩ := e_addToVar (o := o) (σ := σC) (n := n) (v := v) (by omega) hv x
  obtain ⟨τ', m1, m2⟩ := g_holds (τ := τ) (n := n) (v := v) (by omega) hv x s11
  refine ⟨σC', τ', c1, m1, ⟨RF_hd ho h hx c2 m2 (Or.inl ⟨rfl, rfl, n, v, hn, hv, rfl⟩), HdM_Up m2 (Or.inl ⟨rfl, by omega, by omega⟩), m2.1, c2.1, HdC_CF (by omega) c2, ?_, ?_⟩, m2⟩
  · funext i; exact c2.2.2.1 _ i (by omega)
  · funext i; exact c2.2.2.1 _ i (by omega)
theorem lies_sim {o : Nat} (ho : o = 15 ∨ o = 29) {σC τ : Mm} (h : RF o σC τ) {n v : Nat} (hn : (n : Int) < τ.1 0 29) (hv : v < 5) {x : Int64} (hx : ∀ i, lb x i = true → (i : Int) < τ.1 0 29) : ∃ σC' τ', f_X0_addInside o n v x σC = some σC' ∧ f_X7_lies n v x τ = some τ' ∧ Gr o σC τ σC' τ' ∧ HdM τ τ' 19 (5 * n + v) x := by
  obtain ⟨-, s7, s8, s9, s10, s11⟩ := h.2.1
  obtain ⟨σC', c1, c2⟩ := e_addInside (o := o) (σ := σC) (n := n) (v := v) (by omega) hv x
  obtain ⟨τ', m1, m2⟩ := g_lies (τ := τ) (n := n) (v := v) (by omega) hv x s11
  refine ⟨σC', τ', c1, m1, ⟨RF_hd ho h hx c2 m2 (Or.inr (Or.inl ⟨rfl, rfl, n, v, hn, hv, rfl⟩)), HdM_Up m2 (Or.inr (Or.inl ⟨rfl, by omega, by omega⟩)), m2.1, c2.1, HdC_CF (by omega) c2, ?_, ?_⟩, m2⟩
  · funext i; exact c2.2.2.1 _ i (by omega)
  · funext i; exact c2.2.2.1 _ i (by omega)
/-- what was taken without anything new was there -/
theorem HdM_sub {τ τ' : Mm} {c j : Nat} {x : Int64} (h : HdM τ τ' c j x) (h0 : τ'.1 0 22 = 0) : ∀ i, lb x i = true → lb (τ.2 c j) i = true := by
  have := h.2.2.2
  by_cases hs : (τ.2 c j ||| x) = τ.2 c j
  · exact or_sub.mp hs
  · rw [if_neg hs] at this; omega
/-- takings at one place add up -/
theorem HdM_tr {τ τ1 τ2 : Mm} {c j : Nat} {x y : Int64} (h1 : HdM τ τ1 c j x) (h2 : HdM τ1 τ2 c j y) : HdM τ τ2 c j (x ||| y) := by
  obtain ⟨a1, a2, a3, a4⟩ := h1
  obtain ⟨b1, b2, b3, b4⟩ := h2
  have e : (τ.2 c j ||| (x ||| y)) = τ1.2 c j ||| y := by
    rw [a2]; apply lb_ext; intro i _; simp only [lb_or]; cases lb (τ.2 c j) i <;> cases lb x i <;> cases lb y i <;> rfl
  refine ⟨fun k i hk => (b1 k i hk).trans (a1 k i hk), by rw [b2, e], fun k i hk => (b3 k i hk).trans (a3 k i hk), ?_⟩
  rw [b4, e]
  by_cases h : (τ1.2 c j ||| y) = τ1.2 c j
  · rw [if_pos h, h, a4, a2]
  · rw [if_neg h]
    have hn : ¬ (τ1.2 c j ||| y) = τ.2 c j := by
      intro z
      apply h
      apply lb_ext
      intro i hi
      have z2 : lb (τ1.2 c j ||| y) i = lb (τ.2 c j) i := by rw [z]
      rw [a2] at z2 ⊢
      simp only [lb_or] at z2 ⊢
      revert z2
      cases lb (τ.2 c j) i <;> cases lb x i <;> cases lb y i <;> simp
    rw [if_neg hn]
/-! 'one' and 'two' -/
theorem OT_MF {τ τ' : Mm} {a b : Int} (h : OT τ τ' a b) : MF τ τ' := ⟨fun k hk => ⟨by funext i; exact h.2.2.1 k i (by omega), by rw [h.2.2.2]⟩, fun j _ _ _ _ h5 h6 => h.2.2.1 0 j (by omega)⟩
theorem OT_Up {τ τ' : Mm} {a b : Int} (h : OT τ τ' a b) : Up τ τ' := by
  have e : ∀ k j, ¬ (k = 0 ∧ (j = 34 ∨ j = 35)) → τ'.1 k j = τ.1 k j := h.2.2.1
  have e24 := e 0 24 (by decide); have e29 := e 0 29 (by decide); have e22 := e 0 22 (by decide)
  refine ⟨⟨OT_MF h, ⟨by omega, by omega⟩, fun n _ => ⟨e 13 n (by omega), e 14 n (by omega), e 15 n (by omega)⟩, fun n _ => ⟨e 17 n (by omega), e 18 n (by omega)⟩, ?_, ?_, ?_⟩, Or.inl ⟨e22, e24, e29, ?_, ?_, ?_⟩⟩
  all_goals rw [h.2.2.2]; intros
  all_goals first | assumption | rfl
theorem OT_RF {o : Nat} (ho : o = 15 ∨ o = 29) {σC τ τ' : Mm} {a b : Int} (h : RF o σC τ) (ht : OT τ τ' a b) : RF o σC τ' := by
  obtain ⟨hP, hs, hn, hxx, hh, hi, hg, hb, hu⟩ := h
  have e : ∀ k j, ¬ (k = 0 ∧ (j = 34 ∨ j = 35)) → τ'.1 k j = τ.1 k j := ht.2.2.1
  have e24 := e 0 24 (by decide); have e29 := e 0 29 (by decide); have e22 := e 0 22 (by decide); have e18 := e 0 18 (by decide); have e19 := e 0 19 (by decide); have e21 := e 0 21 (by decide)
  have e13 : τ'.1 13 = τ.1 13 := by funext i; exact e 13 i (by omega)
  have e14 : τ'.1 14 = τ.1 14 := by funext i; exact e 14 i (by omega)
  have e15 : τ'.1 15 = τ.1 15 := by funext i; exact e 15 i (by omega)
  have e17 : τ'.1 17 = τ.1 17 := by funext i; exact e 17 i (by omega)
  have e18' : τ'.1 18 = τ.1 18 := by funext i; exact e 18 i (by omega)
  have xse : ∀ i, xst τ' i = xst τ i := fun i => by unfold xst; rw [e17]
  refine ⟨PR_frame ho hP CF.rf (OT_MF ht), ?_, ?_, ?_, ?_, ?_, ?_, ?_, ?_⟩
  · unfold RFs; rw [e24, e29, e22, e18, e19, e21]; exact hs
  · unfold RFn; rw [e24, e13, e14, e15, e19]; exact hn
  · unfold RFx; simp only [xse]; rw [e29, e24, e17, e18', e13]; exact hxx
  · unfold RFh; rw [e24, e29, ht.2.2.2]; exact hh
  · unfold RFi; rw [e29, ht.2.2.2]; exact hi
  · unfold RFg; rw [e29, ht.2.2.2]; exact hg
  · unfold RFb; simp only [xse]; rw [e29]; exact hb
  · unfold RFu; rw [e24, e29, e13, e14, e15, e17, e18']; exact hu
