/-! one STEP of a run -/
theorem dC0 {σ : Mm} {s : Nat} (hs : s < 90) (hk : σ.1 8 s = 0) : f_X4_doStep s σ = f_X4_make s σ := by
  unfold f_X4_doStep
  simp only [ck_pos (show (0 : Int) ≤ (s : Int) ∧ (s : Int) < ((90 : Nat) : Int) by omega), Int.toNat_natCast, hk, bind_id]
  rw [if_pos trivial]
theorem dM0 {σ : Mm} {s : Nat} {x2 : Int64} (hs : s < 90) (hk : σ.1 8 s = 0) : f_X7_does s x2 σ = f_X7_makes (σ.1 9 s) s σ := by
  unfold f_X7_does
  simp only [ck_pos (show (0 : Int) ≤ (s : Int) ∧ (s : Int) < ((90 : Nat) : Int) by omega), Int.toNat_natCast, hk, bind_id]
  rw [if_pos trivial]
theorem dC1 {σ : Mm} {s : Nat} (hs : s < 90) (hk : σ.1 8 s = 1) : f_X4_doStep s σ = f_X4_make s σ := by
  unfold f_X4_doStep
  simp only [ck_pos (show (0 : Int) ≤ (s : Int) ∧ (s : Int) < ((90 : Nat) : Int) by omega), Int.toNat_natCast, hk, bind_id]
  rw [if_neg (show ¬ (1 : Int) = 0 by decide), if_pos trivial]
theorem dM1 {σ : Mm} {s : Nat} {x2 : Int64} (hs : s < 90) (hk : σ.1 8 s = 1) : f_X7_does s x2 σ = f_X7_makes (σ.1 9 s) s σ := by
  unfold f_X7_does
  simp only [ck_pos (show (0 : Int) ≤ (s : Int) ∧ (s : Int) < ((90 : Nat) : Int) by omega), Int.toNat_natCast, hk, bind_id]
  rw [if_neg (show ¬ (1 : Int) = 0 by decide), if_pos trivial]
theorem dC2 {σ : Mm} {s : Nat} (hs : s < 90) (hk : σ.1 8 s = 2) : f_X4_doStep s σ = (f_X1_varOf (σ.1 10 s) σ).bind (fun r => f_X4_setVar (σ.1 9 s) r σ) := by
  unfold f_X4_doStep
  simp only [ck_pos (show (0 : Int) ≤ (s : Int) ∧ (s : Int) < ((90 : Nat) : Int) by omega), Int.toNat_natCast, hk, bind_id]
  rw [if_neg (show ¬ (2 : Int) = 0 by decide), if_neg (show ¬ (2 : Int) = 1 by decide), if_pos trivial]
theorem dM2 {σ : Mm} {s : Nat} {x2 : Int64} (hs : s < 90) (hk : σ.1 8 s = 2) : f_X7_does s x2 σ = (f_X7_var (σ.1 10 s) σ).bind (fun r => f_X7_becomes (σ.1 9 s) r σ) := by
  unfold f_X7_does
  simp only [ck_pos (show (0 : Int) ≤ (s : Int) ∧ (s : Int) < ((90 : Nat) : Int) by omega), Int.toNat_natCast, hk, bind_id]
  rw [if_neg (show ¬ (2 : Int) = 0 by decide), if_neg (show ¬ (2 : Int) = 1 by decide), if_pos trivial]
theorem dC3 {σ : Mm} {s : Nat} (hs : s < 90) (hk : σ.1 8 s = 3) : f_X4_doStep s σ = f_X4_setVar (σ.1 9 s) (-9) σ := by
  unfold f_X4_doStep
  simp only [ck_pos (show (0 : Int) ≤ (s : Int) ∧ (s : Int) < ((90 : Nat) : Int) by omega), Int.toNat_natCast, hk, bind_id]
  rw [if_neg (show ¬ (3 : Int) = 0 by decide), if_neg (show ¬ (3 : Int) = 1 by decide), if_neg (show ¬ (3 : Int) = 2 by decide), if_pos trivial]
theorem dM3 {σ : Mm} {s : Nat} {x2 : Int64} (hs : s < 90) (hk : σ.1 8 s = 3) : f_X7_does s x2 σ = f_X7_becomes (σ.1 9 s) (-1) σ := by
  unfold f_X7_does
  simp only [ck_pos (show (0 : Int) ≤ (s : Int) ∧ (s : Int) < ((90 : Nat) : Int) by omega), Int.toNat_natCast, hk, bind_id]
  rw [if_neg (show ¬ (3 : Int) = 0 by decide), if_neg (show ¬ (3 : Int) = 1 by decide), if_neg (show ¬ (3 : Int) = 2 by decide), if_pos trivial]
theorem dC4 {σ : Mm} {s : Nat} (hs : s < 90) (hk : σ.1 8 s = 4) : f_X4_doStep s σ = (f_X1_varOf (σ.1 10 s) σ).bind (fun r => f_X4_load s r σ) := by
  unfold f_X4_doStep
  simp only [ck_pos (show (0 : Int) ≤ (s : Int) ∧ (s : Int) < ((90 : Nat) : Int) by omega), Int.toNat_natCast, hk, bind_id]
  rw [if_neg (show ¬ (4 : Int) = 0 by decide), if_neg (show ¬ (4 : Int) = 1 by decide), if_neg (show ¬ (4 : Int) = 2 by decide), if_neg (show ¬ (4 : Int) = 3 by decide), if_pos trivial]
theorem dM4 {σ : Mm} {s : Nat} {x2 : Int64} (hs : s < 90) (hk : σ.1 8 s = 4) : f_X7_does s x2 σ = f_X7_reads s 0 σ := by
  unfold f_X7_does
  simp only [ck_pos (show (0 : Int) ≤ (s : Int) ∧ (s : Int) < ((90 : Nat) : Int) by omega), Int.toNat_natCast, hk, bind_id]
  rw [if_neg (show ¬ (4 : Int) = 0 by decide), if_neg (show ¬ (4 : Int) = 1 by decide), if_neg (show ¬ (4 : Int) = 2 by decide), if_neg (show ¬ (4 : Int) = 3 by decide), if_pos trivial, if_neg (show ¬ (4 : Int) = 6 by decide)]
theorem dC5 {σ : Mm} {s : Nat} (hs : s < 90) (hk : σ.1 8 s = 5) : f_X4_doStep s σ = (f_X1_varOf (σ.1 9 s) σ).bind (fun r => f_X4_store s r σ) := by
  unfold f_X4_doStep
  simp only [ck_pos (show (0 : Int) ≤ (s : Int) ∧ (s : Int) < ((90 : Nat) : Int) by omega), Int.toNat_natCast, hk, bind_id]
  rw [if_neg (show ¬ (5 : Int) = 0 by decide), if_neg (show ¬ (5 : Int) = 1 by decide), if_neg (show ¬ (5 : Int) = 2 by decide), if_neg (show ¬ (5 : Int) = 3 by decide), if_neg (show ¬ (5 : Int) = 4 by decide), if_pos trivial]
theorem dM5 {σ : Mm} {s : Nat} {x2 : Int64} (hs : s < 90) (hk : σ.1 8 s = 5) : f_X7_does s x2 σ = f_X7_writes s 0 σ := by
  unfold f_X7_does
  simp only [ck_pos (show (0 : Int) ≤ (s : Int) ∧ (s : Int) < ((90 : Nat) : Int) by omega), Int.toNat_natCast, hk, bind_id]
  rw [if_neg (show ¬ (5 : Int) = 0 by decide), if_neg (show ¬ (5 : Int) = 1 by decide), if_neg (show ¬ (5 : Int) = 2 by decide), if_neg (show ¬ (5 : Int) = 3 by decide), if_neg (show ¬ (5 : Int) = 4 by decide), if_pos trivial, if_neg (show ¬ (5 : Int) = 7 by decide)]
theorem dC6 {σ : Mm} {s : Nat} (hs : s < 90) (hk : σ.1 8 s = 6) : f_X4_doStep s σ = (f_X1_varOf (σ.1 10 s) σ).bind (fun r => f_X4_take s r σ) := by
  unfold f_X4_doStep
  simp only [ck_pos (show (0 : Int) ≤ (s : Int) ∧ (s : Int) < ((90 : Nat) : Int) by omega), Int.toNat_natCast, hk, bind_id]
  rw [if_neg (show ¬ (6 : Int) = 0 by decide), if_neg (show ¬ (6 : Int) = 1 by decide), if_neg (show ¬ (6 : Int) = 2 by decide), if_neg (show ¬ (6 : Int) = 3 by decide), if_neg (show ¬ (6 : Int) = 4 by decide), if_neg (show ¬ (6 : Int) = 5 by decide), if_pos trivial]
theorem dM6 {σ : Mm} {s : Nat} {x2 : Int64} (hs : s < 90) (hk : σ.1 8 s = 6) : f_X7_does s x2 σ = f_X7_reads s 1 σ := by
  unfold f_X7_does
  simp only [ck_pos (show (0 : Int) ≤ (s : Int) ∧ (s : Int) < ((90 : Nat) : Int) by omega), Int.toNat_natCast, hk, bind_id]
  rw [if_neg (show ¬ (6 : Int) = 0 by decide), if_neg (show ¬ (6 : Int) = 1 by decide), if_neg (show ¬ (6 : Int) = 2 by decide), if_neg (show ¬ (6 : Int) = 3 by decide), if_neg (show ¬ (6 : Int) = 4 by decide), if_neg (show ¬ (6 : Int) = 5 by decide), if_pos trivial, if_pos trivial]
theorem dC7 {σ : Mm} {s : Nat} (hs : s < 90) (hk : σ.1 8 s = 7) : f_X4_doStep s σ = (f_X1_varOf (σ.1 9 s) σ).bind (fun r => (f_X1_varOf (σ.1 10 s) σ).bind (fun r' => f_X4_lay s r r' σ)) := by
  unfold f_X4_doStep
  simp only [ck_pos (show (0 : Int) ≤ (s : Int) ∧ (s : Int) < ((90 : Nat) : Int) by omega), Int.toNat_natCast, hk, bind_id]
  rw [if_neg (show ¬ (7 : Int) = 0 by decide), if_neg (show ¬ (7 : Int) = 1 by decide), if_neg (show ¬ (7 : Int) = 2 by decide), if_neg (show ¬ (7 : Int) = 3 by decide), if_neg (show ¬ (7 : Int) = 4 by decide), if_neg (show ¬ (7 : Int) = 5 by decide), if_neg (show ¬ (7 : Int) = 6 by decide), if_pos trivial]
theorem dM7 {σ : Mm} {s : Nat} {x2 : Int64} (hs : s < 90) (hk : σ.1 8 s = 7) : f_X7_does s x2 σ = f_X7_writes s 1 σ := by
  unfold f_X7_does
  simp only [ck_pos (show (0 : Int) ≤ (s : Int) ∧ (s : Int) < ((90 : Nat) : Int) by omega), Int.toNat_natCast, hk, bind_id]
  rw [if_neg (show ¬ (7 : Int) = 0 by decide), if_neg (show ¬ (7 : Int) = 1 by decide), if_neg (show ¬ (7 : Int) = 2 by decide), if_neg (show ¬ (7 : Int) = 3 by decide), if_neg (show ¬ (7 : Int) = 4 by decide), if_neg (show ¬ (7 : Int) = 5 by decide), if_neg (show ¬ (7 : Int) = 6 by decide), if_pos trivial, if_pos trivial]
theorem dC8 {σ : Mm} {s : Nat} (hs : s < 90) (hk : σ.1 8 s = 8) : f_X4_doStep s σ = (f_X1_varOf (σ.1 10 s) σ).bind (fun r => f_X4_cast s r σ) := by
  unfold f_X4_doStep
  simp only [ck_pos (show (0 : Int) ≤ (s : Int) ∧ (s : Int) < ((90 : Nat) : Int) by omega), Int.toNat_natCast, hk, bind_id]
  rw [if_neg (show ¬ (8 : Int) = 0 by decide), if_neg (show ¬ (8 : Int) = 1 by decide), if_neg (show ¬ (8 : Int) = 2 by decide), if_neg (show ¬ (8 : Int) = 3 by decide), if_neg (show ¬ (8 : Int) = 4 by decide), if_neg (show ¬ (8 : Int) = 5 by decide), if_neg (show ¬ (8 : Int) = 6 by decide), if_neg (show ¬ (8 : Int) = 7 by decide), if_pos trivial]
theorem dM8 {σ : Mm} {s : Nat} {x2 : Int64} (hs : s < 90) (hk : σ.1 8 s = 8) : f_X7_does s x2 σ = (f_X7_var (σ.1 10 s) σ).bind (fun r => (if r < 0 then f_X7_becomes (σ.1 9 s) r σ else (f_X7_isObjectBelow r (σ.1 11 s) σ).bind (fun r' => (if r' = 0 then f_X7_fails 5 s σ else f_X7_becomes (σ.1 9 s) r σ)))) := by
  unfold f_X7_does
  simp only [ck_pos (show (0 : Int) ≤ (s : Int) ∧ (s : Int) < ((90 : Nat) : Int) by omega), Int.toNat_natCast, hk, bind_id]
  rw [if_neg (show ¬ (8 : Int) = 0 by decide), if_neg (show ¬ (8 : Int) = 1 by decide), if_neg (show ¬ (8 : Int) = 2 by decide), if_neg (show ¬ (8 : Int) = 3 by decide), if_neg (show ¬ (8 : Int) = 4 by decide), if_neg (show ¬ (8 : Int) = 5 by decide), if_neg (show ¬ (8 : Int) = 6 by decide), if_neg (show ¬ (8 : Int) = 7 by decide), if_pos trivial]
theorem dC9 {σ : Mm} {s : Nat} (hs : s < 90) (hk : σ.1 8 s = 9) : f_X4_doStep s σ = (f_X1_varOf (σ.1 10 s) σ).bind (fun r => f_X4_ask s r σ) := by
  unfold f_X4_doStep
  simp only [ck_pos (show (0 : Int) ≤ (s : Int) ∧ (s : Int) < ((90 : Nat) : Int) by omega), Int.toNat_natCast, hk, bind_id]
  rw [if_neg (show ¬ (9 : Int) = 0 by decide), if_neg (show ¬ (9 : Int) = 1 by decide), if_neg (show ¬ (9 : Int) = 2 by decide), if_neg (show ¬ (9 : Int) = 3 by decide), if_neg (show ¬ (9 : Int) = 4 by decide), if_neg (show ¬ (9 : Int) = 5 by decide), if_neg (show ¬ (9 : Int) = 6 by decide), if_neg (show ¬ (9 : Int) = 7 by decide), if_neg (show ¬ (9 : Int) = 8 by decide), if_pos trivial]
theorem dM9 {σ : Mm} {s : Nat} {x2 : Int64} (hs : s < 90) (hk : σ.1 8 s = 9) : f_X7_does s x2 σ = f_X7_asks s σ := by
  unfold f_X7_does
  simp only [ck_pos (show (0 : Int) ≤ (s : Int) ∧ (s : Int) < ((90 : Nat) : Int) by omega), Int.toNat_natCast, hk, bind_id]
  rw [if_neg (show ¬ (9 : Int) = 0 by decide), if_neg (show ¬ (9 : Int) = 1 by decide), if_neg (show ¬ (9 : Int) = 2 by decide), if_neg (show ¬ (9 : Int) = 3 by decide), if_neg (show ¬ (9 : Int) = 4 by decide), if_neg (show ¬ (9 : Int) = 5 by decide), if_neg (show ¬ (9 : Int) = 6 by decide), if_neg (show ¬ (9 : Int) = 7 by decide), if_neg (show ¬ (9 : Int) = 8 by decide), if_pos trivial]
theorem dC10 {σ : Mm} {s : Nat} (hs : s < 90) (hk : σ.1 8 s = 10) : f_X4_doStep s σ = f_X4_call s σ := by
  unfold f_X4_doStep
  simp only [ck_pos (show (0 : Int) ≤ (s : Int) ∧ (s : Int) < ((90 : Nat) : Int) by omega), Int.toNat_natCast, hk, bind_id]
  rw [if_neg (show ¬ (10 : Int) = 0 by decide), if_neg (show ¬ (10 : Int) = 1 by decide), if_neg (show ¬ (10 : Int) = 2 by decide), if_neg (show ¬ (10 : Int) = 3 by decide), if_neg (show ¬ (10 : Int) = 4 by decide), if_neg (show ¬ (10 : Int) = 5 by decide), if_neg (show ¬ (10 : Int) = 6 by decide), if_neg (show ¬ (10 : Int) = 7 by decide), if_neg (show ¬ (10 : Int) = 8 by decide), if_neg (show ¬ (10 : Int) = 9 by decide), if_pos trivial]
theorem dM10 {σ : Mm} {s : Nat} {x2 : Int64} (hs : s < 90) (hk : σ.1 8 s = 10) : f_X7_does s x2 σ = f_X7_calls s σ := by
  unfold f_X7_does
  simp only [ck_pos (show (0 : Int) ≤ (s : Int) ∧ (s : Int) < ((90 : Nat) : Int) by omega), Int.toNat_natCast, hk, bind_id]
  rw [if_neg (show ¬ (10 : Int) = 0 by decide), if_neg (show ¬ (10 : Int) = 1 by decide), if_neg (show ¬ (10 : Int) = 2 by decide), if_neg (show ¬ (10 : Int) = 3 by decide), if_neg (show ¬ (10 : Int) = 4 by decide), if_neg (show ¬ (10 : Int) = 5 by decide), if_neg (show ¬ (10 : Int) = 6 by decide), if_neg (show ¬ (10 : Int) = 7 by decide), if_neg (show ¬ (10 : Int) = 8 by decide), if_neg (show ¬ (10 : Int) = 9 by decide), if_pos trivial]
theorem dC11 {σ : Mm} {s : Nat} (hs : s < 90) (hk : σ.1 8 s = 11) : f_X4_doStep s σ = (f_X1_varOf (σ.1 9 s) σ).bind (fun r => f_X4_leave r σ) := by
  unfold f_X4_doStep
  simp only [ck_pos (show (0 : Int) ≤ (s : Int) ∧ (s : Int) < ((90 : Nat) : Int) by omega), Int.toNat_natCast, hk, bind_id]
  rw [if_neg (show ¬ (11 : Int) = 0 by decide), if_neg (show ¬ (11 : Int) = 1 by decide), if_neg (show ¬ (11 : Int) = 2 by decide), if_neg (show ¬ (11 : Int) = 3 by decide), if_neg (show ¬ (11 : Int) = 4 by decide), if_neg (show ¬ (11 : Int) = 5 by decide), if_neg (show ¬ (11 : Int) = 6 by decide), if_neg (show ¬ (11 : Int) = 7 by decide), if_neg (show ¬ (11 : Int) = 8 by decide), if_neg (show ¬ (11 : Int) = 9 by decide), if_neg (show ¬ (11 : Int) = 10 by decide), if_pos trivial]
theorem dM11 {σ : Mm} {s : Nat} {x2 : Int64} (hs : s < 90) (hk : σ.1 8 s = 11) : f_X7_does s x2 σ = (f_X7_var (σ.1 9 s) σ).bind (fun r => f_X7_ends r σ) := by
  unfold f_X7_does
  simp only [ck_pos (show (0 : Int) ≤ (s : Int) ∧ (s : Int) < ((90 : Nat) : Int) by omega), Int.toNat_natCast, hk, bind_id]
  rw [if_neg (show ¬ (11 : Int) = 0 by decide), if_neg (show ¬ (11 : Int) = 1 by decide), if_neg (show ¬ (11 : Int) = 2 by decide), if_neg (show ¬ (11 : Int) = 3 by decide), if_neg (show ¬ (11 : Int) = 4 by decide), if_neg (show ¬ (11 : Int) = 5 by decide), if_neg (show ¬ (11 : Int) = 6 by decide), if_neg (show ¬ (11 : Int) = 7 by decide), if_neg (show ¬ (11 : Int) = 8 by decide), if_neg (show ¬ (11 : Int) = 9 by decide), if_neg (show ¬ (11 : Int) = 10 by decide), if_pos trivial]
theorem dC12 {σ : Mm} {s : Nat} (hs : s < 90) (hk : σ.1 8 s = 12) : f_X4_doStep s σ = f_X4_maybe (σ.1 10 s) σ := by
  unfold f_X4_doStep
  simp only [ck_pos (show (0 : Int) ≤ (s : Int) ∧ (s : Int) < ((90 : Nat) : Int) by omega), Int.toNat_natCast, hk, bind_id]
  rw [if_neg (show ¬ (12 : Int) = 0 by decide), if_neg (show ¬ (12 : Int) = 1 by decide), if_neg (show ¬ (12 : Int) = 2 by decide), if_neg (show ¬ (12 : Int) = 3 by decide), if_neg (show ¬ (12 : Int) = 4 by decide), if_neg (show ¬ (12 : Int) = 5 by decide), if_neg (show ¬ (12 : Int) = 6 by decide), if_neg (show ¬ (12 : Int) = 7 by decide), if_neg (show ¬ (12 : Int) = 8 by decide), if_neg (show ¬ (12 : Int) = 9 by decide), if_neg (show ¬ (12 : Int) = 10 by decide), if_neg (show ¬ (12 : Int) = 11 by decide), if_pos trivial]
theorem dM12 {σ : Mm} {s : Nat} {x2 : Int64} (hs : s < 90) (hk : σ.1 8 s = 12) : f_X7_does s x2 σ = (if 64 ≤ (σ.1 0 43) then f_X7_does_287 s 0 σ else (if ((lShr x2 (σ.1 0 43)) &&& 1) = 1 then f_X7_does_287 s 1 σ else f_X7_does_287 s 0 σ)) := by
  unfold f_X7_does
  simp only [ck_pos (show (0 : Int) ≤ (s : Int) ∧ (s : Int) < ((90 : Nat) : Int) by omega), Int.toNat_natCast, hk, bind_id]
  rw [if_neg (show ¬ (12 : Int) = 0 by decide), if_neg (show ¬ (12 : Int) = 1 by decide), if_neg (show ¬ (12 : Int) = 2 by decide), if_neg (show ¬ (12 : Int) = 3 by decide), if_neg (show ¬ (12 : Int) = 4 by decide), if_neg (show ¬ (12 : Int) = 5 by decide), if_neg (show ¬ (12 : Int) = 6 by decide), if_neg (show ¬ (12 : Int) = 7 by decide), if_neg (show ¬ (12 : Int) = 8 by decide), if_neg (show ¬ (12 : Int) = 9 by decide), if_neg (show ¬ (12 : Int) = 10 by decide), if_neg (show ¬ (12 : Int) = 11 by decide), if_pos trivial]
theorem dC13 {σ : Mm} {s : Nat} (hs : s < 90) (hk : σ.1 8 s = 13) : f_X4_doStep s σ = (f_X1_varOf (σ.1 9 s) σ).bind (fun r => f_X4_setGlobal (σ.1 11 s) r σ) := by
  unfold f_X4_doStep
  simp only [ck_pos (show (0 : Int) ≤ (s : Int) ∧ (s : Int) < ((90 : Nat) : Int) by omega), Int.toNat_natCast, hk, bind_id]
  rw [if_neg (show ¬ (13 : Int) = 0 by decide), if_neg (show ¬ (13 : Int) = 1 by decide), if_neg (show ¬ (13 : Int) = 2 by decide), if_neg (show ¬ (13 : Int) = 3 by decide), if_neg (show ¬ (13 : Int) = 4 by decide), if_neg (show ¬ (13 : Int) = 5 by decide), if_neg (show ¬ (13 : Int) = 6 by decide), if_neg (show ¬ (13 : Int) = 7 by decide), if_neg (show ¬ (13 : Int) = 8 by decide), if_neg (show ¬ (13 : Int) = 9 by decide), if_neg (show ¬ (13 : Int) = 10 by decide), if_neg (show ¬ (13 : Int) = 11 by decide), if_neg (show ¬ (13 : Int) = 12 by decide), if_pos trivial]
theorem dM13 {σ : Mm} {s : Nat} {x2 : Int64} (hs : s < 90) (hk : σ.1 8 s = 13) : f_X7_does s x2 σ = (f_X7_var (σ.1 9 s) σ).bind (fun r111 => ck ((0 : Int) ≤ (σ.1 11 s) ∧ (σ.1 11 s) < ((4 : Nat) : Int)) ((f_X7_var (σ.1 9 s) (stI σ 25 (Int.toNat (σ.1 11 s)) r111)).bind (fun r114 => (ck ((0 : Int) ≤ ((stI σ 25 (Int.toNat (σ.1 11 s)) r111).1 11 s) ∧ ((stI σ 25 (Int.toNat (σ.1 11 s)) r111).1 11 s) < ((4 : Nat) : Int)) (f_X7_counts r114 ((stI σ 25 (Int.toNat (σ.1 11 s)) r111).2 20 (Int.toNat ((stI σ 25 (Int.toNat (σ.1 11 s)) r111).1 11 s))) (stI σ 25 (Int.toNat (σ.1 11 s)) r111)))))) := by
  unfold f_X7_does
  simp only [ck_pos (show (0 : Int) ≤ (s : Int) ∧ (s : Int) < ((90 : Nat) : Int) by omega), Int.toNat_natCast, hk, bind_id]
  rw [if_neg (show ¬ (13 : Int) = 0 by decide), if_neg (show ¬ (13 : Int) = 1 by decide), if_neg (show ¬ (13 : Int) = 2 by decide), if_neg (show ¬ (13 : Int) = 3 by decide), if_neg (show ¬ (13 : Int) = 4 by decide), if_neg (show ¬ (13 : Int) = 5 by decide), if_neg (show ¬ (13 : Int) = 6 by decide), if_neg (show ¬ (13 : Int) = 7 by decide), if_neg (show ¬ (13 : Int) = 8 by decide), if_neg (show ¬ (13 : Int) = 9 by decide), if_neg (show ¬ (13 : Int) = 10 by decide), if_neg (show ¬ (13 : Int) = 11 by decide), if_neg (show ¬ (13 : Int) = 12 by decide), if_pos trivial]
theorem dC14 {σ : Mm} {s : Nat} (hs : s < 90) (hk : σ.1 8 s = 14) : f_X4_doStep s σ = ck ((0 : Int) ≤ (σ.1 11 s) ∧ (σ.1 11 s) < ((4 : Nat) : Int)) (f_X4_setVar (σ.1 9 s) (σ.1 55 (Int.toNat (σ.1 11 s))) σ) := by
  unfold f_X4_doStep
  simp only [ck_pos (show (0 : Int) ≤ (s : Int) ∧ (s : Int) < ((90 : Nat) : Int) by omega), Int.toNat_natCast, hk, bind_id]
  rw [if_neg (show ¬ (14 : Int) = 0 by decide), if_neg (show ¬ (14 : Int) = 1 by decide), if_neg (show ¬ (14 : Int) = 2 by decide), if_neg (show ¬ (14 : Int) = 3 by decide), if_neg (show ¬ (14 : Int) = 4 by decide), if_neg (show ¬ (14 : Int) = 5 by decide), if_neg (show ¬ (14 : Int) = 6 by decide), if_neg (show ¬ (14 : Int) = 7 by decide), if_neg (show ¬ (14 : Int) = 8 by decide), if_neg (show ¬ (14 : Int) = 9 by decide), if_neg (show ¬ (14 : Int) = 10 by decide), if_neg (show ¬ (14 : Int) = 11 by decide), if_neg (show ¬ (14 : Int) = 12 by decide), if_neg (show ¬ (14 : Int) = 13 by decide), if_pos trivial]
theorem dM14 {σ : Mm} {s : Nat} {x2 : Int64} (hs : s < 90) (hk : σ.1 8 s = 14) : f_X7_does s x2 σ = ck ((0 : Int) ≤ (σ.1 11 s) ∧ (σ.1 11 s) < ((4 : Nat) : Int)) (f_X7_becomes (σ.1 9 s) (σ.1 25 (Int.toNat (σ.1 11 s))) σ) := by
  unfold f_X7_does
  simp only [ck_pos (show (0 : Int) ≤ (s : Int) ∧ (s : Int) < ((90 : Nat) : Int) by omega), Int.toNat_natCast, hk, bind_id]
  rw [if_neg (show ¬ (14 : Int) = 0 by decide), if_neg (show ¬ (14 : Int) = 1 by decide), if_neg (show ¬ (14 : Int) = 2 by decide), if_neg (show ¬ (14 : Int) = 3 by decide), if_neg (show ¬ (14 : Int) = 4 by decide), if_neg (show ¬ (14 : Int) = 5 by decide), if_neg (show ¬ (14 : Int) = 6 by decide), if_neg (show ¬ (14 : Int) = 7 by decide), if_neg (show ¬ (14 : Int) = 8 by decide), if_neg (show ¬ (14 : Int) = 9 by decide), if_neg (show ¬ (14 : Int) = 10 by decide), if_neg (show ¬ (14 : Int) = 11 by decide), if_neg (show ¬ (14 : Int) = 12 by decide), if_neg (show ¬ (14 : Int) = 13 by decide), if_pos trivial]
theorem dC15 {σ : Mm} {s : Nat} (hs : s < 90) (hk : σ.1 8 s = 15) : f_X4_doStep s σ = (f_X1_varOf (σ.1 9 s) σ).bind (fun r => f_X4_raise s r σ) := by
  unfold f_X4_doStep
  simp only [ck_pos (show (0 : Int) ≤ (s : Int) ∧ (s : Int) < ((90 : Nat) : Int) by omega), Int.toNat_natCast, hk, bind_id]
  rw [if_neg (show ¬ (15 : Int) = 0 by decide), if_neg (show ¬ (15 : Int) = 1 by decide), if_neg (show ¬ (15 : Int) = 2 by decide), if_neg (show ¬ (15 : Int) = 3 by decide), if_neg (show ¬ (15 : Int) = 4 by decide), if_neg (show ¬ (15 : Int) = 5 by decide), if_neg (show ¬ (15 : Int) = 6 by decide), if_neg (show ¬ (15 : Int) = 7 by decide), if_neg (show ¬ (15 : Int) = 8 by decide), if_neg (show ¬ (15 : Int) = 9 by decide), if_neg (show ¬ (15 : Int) = 10 by decide), if_neg (show ¬ (15 : Int) = 11 by decide), if_neg (show ¬ (15 : Int) = 12 by decide), if_neg (show ¬ (15 : Int) = 13 by decide), if_neg (show ¬ (15 : Int) = 14 by decide), if_pos trivial]
theorem dM15 {σ : Mm} {s : Nat} {x2 : Int64} (hs : s < 90) (hk : σ.1 8 s = 15) : f_X7_does s x2 σ = (f_X7_var (σ.1 9 s) σ).bind (fun r => (if 0 ≤ r then (f_X7_var (σ.1 9 s) σ).bind (fun r' => f_X7_raises r' s σ) else f_X7_fails 1 s σ)) := by
  unfold f_X7_does
  simp only [ck_pos (show (0 : Int) ≤ (s : Int) ∧ (s : Int) < ((90 : Nat) : Int) by omega), Int.toNat_natCast, hk, bind_id]
  rw [if_neg (show ¬ (15 : Int) = 0 by decide), if_neg (show ¬ (15 : Int) = 1 by decide), if_neg (show ¬ (15 : Int) = 2 by decide), if_neg (show ¬ (15 : Int) = 3 by decide), if_neg (show ¬ (15 : Int) = 4 by decide), if_neg (show ¬ (15 : Int) = 5 by decide), if_neg (show ¬ (15 : Int) = 6 by decide), if_neg (show ¬ (15 : Int) = 7 by decide), if_neg (show ¬ (15 : Int) = 8 by decide), if_neg (show ¬ (15 : Int) = 9 by decide), if_neg (show ¬ (15 : Int) = 10 by decide), if_neg (show ¬ (15 : Int) = 11 by decide), if_neg (show ¬ (15 : Int) = 12 by decide), if_neg (show ¬ (15 : Int) = 13 by decide), if_neg (show ¬ (15 : Int) = 14 by decide), if_pos trivial]
theorem dC16 {σ : Mm} {s : Nat} (hs : s < 90) (hk : σ.1 8 s = 16) : f_X4_doStep s σ = some σ := by
  unfold f_X4_doStep
  simp only [ck_pos (show (0 : Int) ≤ (s : Int) ∧ (s : Int) < ((90 : Nat) : Int) by omega), Int.toNat_natCast, hk, bind_id]
  rw [if_neg (show ¬ (16 : Int) = 0 by decide), if_neg (show ¬ (16 : Int) = 1 by decide), if_neg (show ¬ (16 : Int) = 2 by decide), if_neg (show ¬ (16 : Int) = 3 by decide), if_neg (show ¬ (16 : Int) = 4 by decide), if_neg (show ¬ (16 : Int) = 5 by decide), if_neg (show ¬ (16 : Int) = 6 by decide), if_neg (show ¬ (16 : Int) = 7 by decide), if_neg (show ¬ (16 : Int) = 8 by decide), if_neg (show ¬ (16 : Int) = 9 by decide), if_neg (show ¬ (16 : Int) = 10 by decide), if_neg (show ¬ (16 : Int) = 11 by decide), if_neg (show ¬ (16 : Int) = 12 by decide), if_neg (show ¬ (16 : Int) = 13 by decide), if_neg (show ¬ (16 : Int) = 14 by decide), if_neg (show ¬ (16 : Int) = 15 by decide)]
theorem dM16 {σ : Mm} {s : Nat} {x2 : Int64} (hs : s < 90) (hk : σ.1 8 s = 16) : f_X7_does s x2 σ = some σ := by
  unfold f_X7_does
  simp only [ck_pos (show (0 : Int) ≤ (s : Int) ∧ (s : Int) < ((90 : Nat) : Int) by omega), Int.toNat_natCast, hk, bind_id]
  rw [if_neg (show ¬ (16 : Int) = 0 by decide), if_neg (show ¬ (16 : Int) = 1 by decide), if_neg (show ¬ (16 : Int) = 2 by decide), if_neg (show ¬ (16 : Int) = 3 by decide), if_neg (show ¬ (16 : Int) = 4 by decide), if_neg (show ¬ (16 : Int) = 5 by decide), if_neg (show ¬ (16 : Int) = 6 by decide), if_neg (show ¬ (16 : Int) = 7 by decide), if_neg (show ¬ (16 : Int) = 8 by decide), if_neg (show ¬ (16 : Int) = 9 by decide), if_neg (show ¬ (16 : Int) = 10 by decide), if_neg (show ¬ (16 : Int) = 11 by decide), if_neg (show ¬ (16 : Int) = 12 by decide), if_neg (show ¬ (16 : Int) = 13 by decide), if_neg (show ¬ (16 : Int) = 14 by decide), if_neg (show ¬ (16 : Int) = 15 by decide)]
