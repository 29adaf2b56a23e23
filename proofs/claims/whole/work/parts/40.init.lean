/-! Arrays.fill, what it does -/
def flI (σ : Mm) (q n : Nat) (v : Int) : Mm := (fun a b => if a = q ∧ b < n then v else σ.1 a b, σ.2)
def flL (σ : Mm) (q n : Nat) (v : Int64) : Mm := (σ.1, fun a b => if a = q ∧ b < n then v else σ.2 a b)
theorem fillI_aux (n q : Nat) (v : Int) (hn : n < 2147483647) : ∀ (k f i : Nat) (σ : Mm), i + k = n → k < f → f_J7_fill_53178_5 n q f v (i : Int) (n : Int) σ = some (fun a b => if a = q ∧ i ≤ b ∧ b < n then v else σ.1 a b, σ.2) := by
  intro k
  induction k with
  | zero =>
    intro f i σ hi hf
    obtain ⟨f, rfl⟩ : ∃ g, f = g + 1 := ⟨f - 1, by omega⟩
    rw [f_J7_fill_53178_5, if_pos (by omega)]
    congr 1
    refine Prod.ext ?_ rfl
    funext a b
    show σ.1 a b = if a = q ∧ i ≤ b ∧ b < n then v else σ.1 a b
    rw [if_neg (by omega)]
  | succ k ih =>
    intro f i σ hi hf
    obtain ⟨f, rfl⟩ : ∃ g, f = g + 1 := ⟨f - 1, by omega⟩
    rw [f_J7_fill_53178_5, if_neg (by omega), ck_pos (by omega), ck_pos (by omega)]
    have e : ((i : Int) + 1) = ((i + 1 : Nat) : Int) := by omega
    rw [e, ih f (i + 1) _ (by omega) (by omega)]
    congr 1
    refine Prod.ext ?_ rfl
    funext a b
    show (if a = q ∧ i + 1 ≤ b ∧ b < n then v else if a = q ∧ b = Int.toNat (i : Int) then v else σ.1 a b) = if a = q ∧ i ≤ b ∧ b < n then v else σ.1 a b
    rw [Int.toNat_natCast]
    by_cases h1 : a = q ∧ i + 1 ≤ b ∧ b < n
    · rw [if_pos h1, if_pos (by omega)]
    · rw [if_neg h1]
      by_cases h2 : a = q ∧ b = i
      · rw [if_pos h2, if_pos (by omega)]
      · rw [if_neg h2, if_neg (by omega)]
theorem fillI_eq {n q : Nat} {v : Int} {σ : Mm} (hn : n < 2000) : f_J7_fill_53178 n q v σ = some (flI σ q n v) := by
  have h := fillI_aux n q v (by omega) n 2000 0 σ (by omega) hn
  unfold f_J7_fill_53178
  rw [show (0 : Int) = ((0 : Nat) : Int) from rfl, h]
  congr 1
  refine Prod.ext ?_ rfl
  funext a b
  show (if a = q ∧ 0 ≤ b ∧ b < n then v else σ.1 a b) = if a = q ∧ b < n then v else σ.1 a b
  by_cases h1 : a = q ∧ b < n
  · rw [if_pos h1, if_pos (by omega)]
  · rw [if_neg h1, if_neg (by omega)]
theorem fillL_aux (n q : Nat) (v : Int64) (hn : n < 2147483647) : ∀ (k f i : Nat) (σ : Mm), i + k = n → k < f → f_J7_fill_d0a16_6 n q f v (i : Int) (n : Int) σ = some (σ.1, fun a b => if a = q ∧ i ≤ b ∧ b < n then v else σ.2 a b) := by
  intro k
  induction k with
  | zero =>
    intro f i σ hi hf
    obtain ⟨f, rfl⟩ : ∃ g, f = g + 1 := ⟨f - 1, by omega⟩
    rw [f_J7_fill_d0a16_6, if_pos (by omega)]
    congr 1
    refine Prod.ext rfl ?_
    funext a b
    show σ.2 a b = if a = q ∧ i ≤ b ∧ b < n then v else σ.2 a b
    rw [if_neg (by omega)]
  | succ k ih =>
    intro f i σ hi hf
    obtain ⟨f, rfl⟩ : ∃ g, f = g + 1 := ⟨f - 1, by omega⟩
    rw [f_J7_fill_d0a16_6, if_neg (by omega), ck_pos (by omega), ck_pos (by omega)]
    have e : ((i : Int) + 1) = ((i + 1 : Nat) : Int) := by omega
    rw [e, ih f (i + 1) _ (by omega) (by omega)]
    congr 1
    refine Prod.ext rfl ?_
    funext a b
    show (if a = q ∧ i + 1 ≤ b ∧ b < n then v else if a = q ∧ b = Int.toNat (i : Int) then v else σ.2 a b) = if a = q ∧ i ≤ b ∧ b < n then v else σ.2 a b
    rw [Int.toNat_natCast]
    by_cases h1 : a = q ∧ i + 1 ≤ b ∧ b < n
    · rw [if_pos h1, if_pos (by omega)]
    · rw [if_neg h1]
      by_cases h2 : a = q ∧ b = i
      · rw [if_pos h2, if_pos (by omega)]
      · rw [if_neg h2, if_neg (by omega)]
theorem fillL_eq {n q : Nat} {v : Int64} {σ : Mm} (hn : n < 2000) : f_J7_fill_d0a16 n q v σ = some (flL σ q n v) := by
  have h := fillL_aux n q v (by omega) n 2000 0 σ (by omega) hn
  unfold f_J7_fill_d0a16
  rw [show (0 : Int) = ((0 : Nat) : Int) from rfl, h]
  congr 1
  refine Prod.ext rfl ?_
  funext a b
  show (if a = q ∧ 0 ≤ b ∧ b < n then v else σ.2 a b) = if a = q ∧ b < n then v else σ.2 a b
  by_cases h1 : a = q ∧ b < n
  · rw [if_pos h1, if_pos (by omega)]
  · rw [if_neg h1, if_neg (by omega)]
theorem Zb.flI {σ : Mm} {n q k : Nat} {v : Int} (h : Zb σ n) (hk : q < n) : Zb (flI σ q k v) n := fun z hz => ⟨fun i => by
  show (if z = q ∧ i < k then v else σ.1 z i) = 0
  rw [if_neg (by omega)]; exact (h z hz).1 i, (h z hz).2⟩
theorem Rg.flI {σ : Mm} {q k : Nat} {v : Int} (h : Rg σ) (hv : inR v) : Rg (flI σ q k v) := by
  intro a b
  show inR (if a = q ∧ b < k then v else σ.1 a b)
  split
  · exact hv
  · exact h a b
/-- what the calls between nest mates need, with the makers -/
def NI (U : State) : Prop := NC U ∧ va_Nw (.methodLinkNest RX0 56 yX5_init "SiteObjects") U ∧ va_Nw (.methodLinkNest RX4 11 yX1_init "SiteObjects") U
theorem NIok : NOK NI := ⟨fun u U hW h => ⟨NCok.1 u U hW h.1, va_Nw.warmM hW h.2.1, va_Nw.warmM hW h.2.2⟩, fun U g mk a h => ⟨NCok.2 U g mk a h.1, va_tabs (A := #[]) (u := U) (U := U.calling g mk a) rfl rfl h.2.1, va_tabs (A := #[]) (u := U) (U := U.calling g mk a) rfl rfl h.2.2⟩⟩
def fn_X6 : List (Nat × Nat) := [(3, 0), (3, 0), (3, 0), (3, 0), (0, 0), (0, 0), (0, 0)]
theorem fn_X6_ok : ∀ j, j < 7 → (fn_X6[j]? = some (0, 0) ∧ defaultValue (tyX6 j) = .int 0) ∨ (fn_X6[j]? = some (1, 0) ∧ defaultValue (tyX6 j) = .long 0) ∨ (fn_X6[j]? = some (3, 0) ∧ defaultValue (tyX6 j) = .null) := by decide
def fn_X3 : List (Nat × Nat) := [(0, 0), (0, 0), (0, 0), (0, 0), (3, 0), (3, 0), (3, 0), (3, 0), (3, 0), (3, 0), (3, 0), (3, 0), (3, 0), (3, 0), (3, 0), (3, 0), (3, 0)]
theorem fn_X3_ok : ∀ j, j < 17 → (fn_X3[j]? = some (0, 0) ∧ defaultValue (tyX3 j) = .int 0) ∨ (fn_X3[j]? = some (1, 0) ∧ defaultValue (tyX3 j) = .long 0) ∨ (fn_X3[j]? = some (3, 0) ∧ defaultValue (tyX3 j) = .null) := by decide
def fn_X0 : List (Nat × Nat) := [(3, 0), (3, 0), (3, 0), (3, 0), (3, 0), (3, 0), (1, 0), (0, 0), (0, 0), (3, 0), (3, 0), (3, 0), (3, 0)]
theorem fn_X0_ok : ∀ j, j < 13 → (fn_X0[j]? = some (0, 0) ∧ defaultValue (tyX0 j) = .int 0) ∨ (fn_X0[j]? = some (1, 0) ∧ defaultValue (tyX0 j) = .long 0) ∨ (fn_X0[j]? = some (3, 0) ∧ defaultValue (tyX0 j) = .null) := by decide
def fn_X5 : List (Nat × Nat) := [(0, 0), (0, 0), (0, 0), (0, 0), (0, 0), (3, 0), (3, 0), (3, 0), (3, 0)]
theorem fn_X5_ok : ∀ j, j < 9 → (fn_X5[j]? = some (0, 0) ∧ defaultValue (tyX5 j) = .int 0) ∨ (fn_X5[j]? = some (1, 0) ∧ defaultValue (tyX5 j) = .long 0) ∨ (fn_X5[j]? = some (3, 0) ∧ defaultValue (tyX5 j) = .null) := by decide
def fn_X4 : List (Nat × Nat) := [(3, 0), (3, 0), (3, 0), (3, 0), (3, 0), (1, 0), (0, 0), (0, 0)]
theorem fn_X4_ok : ∀ j, j < 8 → (fn_X4[j]? = some (0, 0) ∧ defaultValue (tyX4 j) = .int 0) ∨ (fn_X4[j]? = some (1, 0) ∧ defaultValue (tyX4 j) = .long 0) ∨ (fn_X4[j]? = some (3, 0) ∧ defaultValue (tyX4 j) = .null) := by decide
def fn_X2 : List (Nat × Nat) := [(3, 0), (0, 0), (3, 0), (3, 0), (3, 0), (3, 0), (3, 0)]
theorem fn_X2_ok : ∀ j, j < 7 → (fn_X2[j]? = some (0, 0) ∧ defaultValue (tyX2 j) = .int 0) ∨ (fn_X2[j]? = some (1, 0) ∧ defaultValue (tyX2 j) = .long 0) ∨ (fn_X2[j]? = some (3, 0) ∧ defaultValue (tyX2 j) = .null) := by decide
def fn_X1 : List (Nat × Nat) := [(0, 0), (3, 0), (3, 0), (3, 0), (3, 0)]
theorem fn_X1_ok : ∀ j, j < 5 → (fn_X1[j]? = some (0, 0) ∧ defaultValue (tyX1 j) = .int 0) ∨ (fn_X1[j]? = some (1, 0) ∧ defaultValue (tyX1 j) = .long 0) ∨ (fn_X1[j]? = some (3, 0) ∧ defaultValue (tyX1 j) = .null) := by decide
def fn_X7 : List (Nat × Nat) := [(0, 0), (3, 0), (0, 0), (3, 0), (3, 0), (3, 0), (3, 0), (0, 0), (0, 0), (3, 0), (3, 0), (3, 0), (3, 0), (3, 0), (3, 0), (3, 0), (0, 0), (0, 0), (0, 0), (0, 0), (0, 0), (0, 0), (0, 0), (0, 0), (0, 0), (3, 0), (3, 0), (3, 0), (3, 0), (0, 0), (3, 0), (3, 0), (3, 0), (3, 0), (0, 0), (0, 0), (0, 0), (0, 0), (0, 0), (0, 0), (0, 0), (0, 0), (0, 0), (0, 0), (0, 0), (0, 0), (0, 0), (3, 0), (3, 0), (3, 0), (3, 0), (3, 0), (0, 0), (3, 0), (3, 0), (3, 0), (3, 0), (3, 0), (3, 0)]
theorem fn_X7_ok : ∀ j, j < 59 → (fn_X7[j]? = some (0, 0) ∧ defaultValue (tyX7 j) = .int 0) ∨ (fn_X7[j]? = some (1, 0) ∧ defaultValue (tyX7 j) = .long 0) ∨ (fn_X7[j]? = some (3, 0) ∧ defaultValue (tyX7 j) = .null) := by decide
def sg_0 : List Sh := [(0, 6, [(3, 0), (3, 0), (3, 0), (3, 0), (0, 0), (0, 0), (0, 0)])]
theorem sg_0_len : sg_0.length = 1 := rfl
def sg_1 : List Sh := [(0, 6, [(3, 0), (3, 0), (3, 0), (3, 0), (0, 0), (0, 0), (0, 0)]), (0, 3, [(0, 0), (0, 0), (0, 0), (0, 0), (3, 0), (3, 0), (3, 0), (3, 0), (3, 0), (3, 0), (3, 0), (3, 0), (3, 0), (3, 0), (3, 0), (3, 0), (3, 0)])]
theorem sg_1_len : sg_1.length = 2 := rfl
def sg_2 : List Sh := [(0, 6, [(3, 0), (3, 0), (3, 0), (3, 0), (0, 0), (0, 0), (0, 0)]), (0, 3, [(0, 0), (0, 0), (0, 0), (0, 0), (3, 0), (3, 0), (3, 0), (3, 0), (3, 0), (3, 0), (3, 0), (3, 0), (3, 0), (3, 0), (3, 0), (3, 0), (3, 0)]), (1, 10, [])]
theorem sg_2_len : sg_2.length = 3 := rfl
def sg_3 : List Sh := [(0, 6, [(3, 0), (3, 0), (3, 0), (3, 0), (0, 0), (0, 0), (0, 0)]), (0, 3, [(0, 0), (0, 0), (0, 0), (0, 0), (2, 2), (3, 0), (3, 0), (3, 0), (3, 0), (3, 0), (3, 0), (3, 0), (3, 0), (3, 0), (3, 0), (3, 0), (3, 0)]), (1, 10, [])]
theorem sg_3_len : sg_3.length = 3 := rfl
def sg_4 : List Sh := [(0, 6, [(3, 0), (3, 0), (3, 0), (3, 0), (0, 0), (0, 0), (0, 0)]), (0, 3, [(0, 0), (0, 0), (0, 0), (0, 0), (2, 2), (3, 0), (3, 0), (3, 0), (3, 0), (3, 0), (3, 0), (3, 0), (3, 0), (3, 0), (3, 0), (3, 0), (3, 0)]), (1, 10, []), (1, 12, [])]
theorem sg_4_len : sg_4.length = 4 := rfl
def sg_5 : List Sh := [(0, 6, [(3, 0), (3, 0), (3, 0), (3, 0), (0, 0), (0, 0), (0, 0)]), (0, 3, [(0, 0), (0, 0), (0, 0), (0, 0), (2, 2), (2, 3), (3, 0), (3, 0), (3, 0), (3, 0), (3, 0), (3, 0), (3, 0), (3, 0), (3, 0), (3, 0), (3, 0)]), (1, 10, []), (1, 12, [])]
theorem sg_5_len : sg_5.length = 4 := rfl
def sg_6 : List Sh := [(0, 6, [(3, 0), (3, 0), (3, 0), (3, 0), (0, 0), (0, 0), (0, 0)]), (0, 3, [(0, 0), (0, 0), (0, 0), (0, 0), (2, 2), (2, 3), (3, 0), (3, 0), (3, 0), (3, 0), (3, 0), (3, 0), (3, 0), (3, 0), (3, 0), (3, 0), (3, 0)]), (1, 10, []), (1, 12, []), (1, 12, [])]
theorem sg_6_len : sg_6.length = 5 := rfl
def sg_7 : List Sh := [(0, 6, [(3, 0), (3, 0), (3, 0), (3, 0), (0, 0), (0, 0), (0, 0)]), (0, 3, [(0, 0), (0, 0), (0, 0), (0, 0), (2, 2), (2, 3), (2, 4), (3, 0), (3, 0), (3, 0), (3, 0), (3, 0), (3, 0), (3, 0), (3, 0), (3, 0), (3, 0)]), (1, 10, []), (1, 12, []), (1, 12, [])]
theorem sg_7_len : sg_7.length = 5 := rfl
def sg_8 : List Sh := [(0, 6, [(3, 0), (3, 0), (3, 0), (3, 0), (0, 0), (0, 0), (0, 0)]), (0, 3, [(0, 0), (0, 0), (0, 0), (0, 0), (2, 2), (2, 3), (2, 4), (3, 0), (3, 0), (3, 0), (3, 0), (3, 0), (3, 0), (3, 0), (3, 0), (3, 0), (3, 0)]), (1, 10, []), (1, 12, []), (1, 12, []), (1, 80, [])]
theorem sg_8_len : sg_8.length = 6 := rfl
def sg_9 : List Sh := [(0, 6, [(3, 0), (3, 0), (3, 0), (3, 0), (0, 0), (0, 0), (0, 0)]), (0, 3, [(0, 0), (0, 0), (0, 0), (0, 0), (2, 2), (2, 3), (2, 4), (2, 5), (3, 0), (3, 0), (3, 0), (3, 0), (3, 0), (3, 0), (3, 0), (3, 0), (3, 0)]), (1, 10, []), (1, 12, []), (1, 12, []), (1, 80, [])]
theorem sg_9_len : sg_9.length = 6 := rfl
def sg_10 : List Sh := [(0, 6, [(3, 0), (3, 0), (3, 0), (3, 0), (0, 0), (0, 0), (0, 0)]), (0, 3, [(0, 0), (0, 0), (0, 0), (0, 0), (2, 2), (2, 3), (2, 4), (2, 5), (3, 0), (3, 0), (3, 0), (3, 0), (3, 0), (3, 0), (3, 0), (3, 0), (3, 0)]), (1, 10, []), (1, 12, []), (1, 12, []), (1, 80, []), (1, 12, [])]
theorem sg_10_len : sg_10.length = 7 := rfl
def sg_11 : List Sh := [(0, 6, [(3, 0), (3, 0), (3, 0), (3, 0), (0, 0), (0, 0), (0, 0)]), (0, 3, [(0, 0), (0, 0), (0, 0), (0, 0), (2, 2), (2, 3), (2, 4), (2, 5), (2, 6), (3, 0), (3, 0), (3, 0), (3, 0), (3, 0), (3, 0), (3, 0), (3, 0)]), (1, 10, []), (1, 12, []), (1, 12, []), (1, 80, []), (1, 12, [])]
theorem sg_11_len : sg_11.length = 7 := rfl
def sg_12 : List Sh := [(0, 6, [(3, 0), (3, 0), (3, 0), (3, 0), (0, 0), (0, 0), (0, 0)]), (0, 3, [(0, 0), (0, 0), (0, 0), (0, 0), (2, 2), (2, 3), (2, 4), (2, 5), (2, 6), (3, 0), (3, 0), (3, 0), (3, 0), (3, 0), (3, 0), (3, 0), (3, 0)]), (1, 10, []), (1, 12, []), (1, 12, []), (1, 80, []), (1, 12, []), (1, 1080, [])]
theorem sg_12_len : sg_12.length = 8 := rfl
def sg_13 : List Sh := [(0, 6, [(3, 0), (3, 0), (3, 0), (3, 0), (0, 0), (0, 0), (0, 0)]), (0, 3, [(0, 0), (0, 0), (0, 0), (0, 0), (2, 2), (2, 3), (2, 4), (2, 5), (2, 6), (2, 7), (3, 0), (3, 0), (3, 0), (3, 0), (3, 0), (3, 0), (3, 0)]), (1, 10, []), (1, 12, []), (1, 12, []), (1, 80, []), (1, 12, []), (1, 1080, [])]
theorem sg_13_len : sg_13.length = 8 := rfl
def sg_14 : List Sh := [(0, 6, [(3, 0), (3, 0), (3, 0), (3, 0), (0, 0), (0, 0), (0, 0)]), (0, 3, [(0, 0), (0, 0), (0, 0), (0, 0), (2, 2), (2, 3), (2, 4), (2, 5), (2, 6), (2, 7), (3, 0), (3, 0), (3, 0), (3, 0), (3, 0), (3, 0), (3, 0)]), (1, 10, []), (1, 12, []), (1, 12, []), (1, 80, []), (1, 12, []), (1, 1080, []), (1, 90, [])]
theorem sg_14_len : sg_14.length = 9 := rfl
def sg_15 : List Sh := [(0, 6, [(3, 0), (3, 0), (3, 0), (3, 0), (0, 0), (0, 0), (0, 0)]), (0, 3, [(0, 0), (0, 0), (0, 0), (0, 0), (2, 2), (2, 3), (2, 4), (2, 5), (2, 6), (2, 7), (2, 8), (3, 0), (3, 0), (3, 0), (3, 0), (3, 0), (3, 0)]), (1, 10, []), (1, 12, []), (1, 12, []), (1, 80, []), (1, 12, []), (1, 1080, []), (1, 90, [])]
theorem sg_15_len : sg_15.length = 9 := rfl
def sg_16 : List Sh := [(0, 6, [(3, 0), (3, 0), (3, 0), (3, 0), (0, 0), (0, 0), (0, 0)]), (0, 3, [(0, 0), (0, 0), (0, 0), (0, 0), (2, 2), (2, 3), (2, 4), (2, 5), (2, 6), (2, 7), (2, 8), (3, 0), (3, 0), (3, 0), (3, 0), (3, 0), (3, 0)]), (1, 10, []), (1, 12, []), (1, 12, []), (1, 80, []), (1, 12, []), (1, 1080, []), (1, 90, []), (1, 90, [])]
theorem sg_16_len : sg_16.length = 10 := rfl
def sg_17 : List Sh := [(0, 6, [(3, 0), (3, 0), (3, 0), (3, 0), (0, 0), (0, 0), (0, 0)]), (0, 3, [(0, 0), (0, 0), (0, 0), (0, 0), (2, 2), (2, 3), (2, 4), (2, 5), (2, 6), (2, 7), (2, 8), (2, 9), (3, 0), (3, 0), (3, 0), (3, 0), (3, 0)]), (1, 10, []), (1, 12, []), (1, 12, []), (1, 80, []), (1, 12, []), (1, 1080, []), (1, 90, []), (1, 90, [])]
theorem sg_17_len : sg_17.length = 10 := rfl
def sg_18 : List Sh := [(0, 6, [(3, 0), (3, 0), (3, 0), (3, 0), (0, 0), (0, 0), (0, 0)]), (0, 3, [(0, 0), (0, 0), (0, 0), (0, 0), (2, 2), (2, 3), (2, 4), (2, 5), (2, 6), (2, 7), (2, 8), (2, 9), (3, 0), (3, 0), (3, 0), (3, 0), (3, 0)]), (1, 10, []), (1, 12, []), (1, 12, []), (1, 80, []), (1, 12, []), (1, 1080, []), (1, 90, []), (1, 90, []), (1, 90, [])]
theorem sg_18_len : sg_18.length = 11 := rfl
def sg_19 : List Sh := [(0, 6, [(3, 0), (3, 0), (3, 0), (3, 0), (0, 0), (0, 0), (0, 0)]), (0, 3, [(0, 0), (0, 0), (0, 0), (0, 0), (2, 2), (2, 3), (2, 4), (2, 5), (2, 6), (2, 7), (2, 8), (2, 9), (2, 10), (3, 0), (3, 0), (3, 0), (3, 0)]), (1, 10, []), (1, 12, []), (1, 12, []), (1, 80, []), (1, 12, []), (1, 1080, []), (1, 90, []), (1, 90, []), (1, 90, [])]
theorem sg_19_len : sg_19.length = 11 := rfl
def sg_20 : List Sh := [(0, 6, [(3, 0), (3, 0), (3, 0), (3, 0), (0, 0), (0, 0), (0, 0)]), (0, 3, [(0, 0), (0, 0), (0, 0), (0, 0), (2, 2), (2, 3), (2, 4), (2, 5), (2, 6), (2, 7), (2, 8), (2, 9), (2, 10), (3, 0), (3, 0), (3, 0), (3, 0)]), (1, 10, []), (1, 12, []), (1, 12, []), (1, 80, []), (1, 12, []), (1, 1080, []), (1, 90, []), (1, 90, []), (1, 90, []), (1, 90, [])]
theorem sg_20_len : sg_20.length = 12 := rfl
def sg_21 : List Sh := [(0, 6, [(3, 0), (3, 0), (3, 0), (3, 0), (0, 0), (0, 0), (0, 0)]), (0, 3, [(0, 0), (0, 0), (0, 0), (0, 0), (2, 2), (2, 3), (2, 4), (2, 5), (2, 6), (2, 7), (2, 8), (2, 9), (2, 10), (2, 11), (3, 0), (3, 0), (3, 0)]), (1, 10, []), (1, 12, []), (1, 12, []), (1, 80, []), (1, 12, []), (1, 1080, []), (1, 90, []), (1, 90, []), (1, 90, []), (1, 90, [])]
theorem sg_21_len : sg_21.length = 12 := rfl
def sg_22 : List Sh := [(0, 6, [(3, 0), (3, 0), (3, 0), (3, 0), (0, 0), (0, 0), (0, 0)]), (0, 3, [(0, 0), (0, 0), (0, 0), (0, 0), (2, 2), (2, 3), (2, 4), (2, 5), (2, 6), (2, 7), (2, 8), (2, 9), (2, 10), (2, 11), (3, 0), (3, 0), (3, 0)]), (1, 10, []), (1, 12, []), (1, 12, []), (1, 80, []), (1, 12, []), (1, 1080, []), (1, 90, []), (1, 90, []), (1, 90, []), (1, 90, []), (1, 90, [])]
theorem sg_22_len : sg_22.length = 13 := rfl
def sg_23 : List Sh := [(0, 6, [(3, 0), (3, 0), (3, 0), (3, 0), (0, 0), (0, 0), (0, 0)]), (0, 3, [(0, 0), (0, 0), (0, 0), (0, 0), (2, 2), (2, 3), (2, 4), (2, 5), (2, 6), (2, 7), (2, 8), (2, 9), (2, 10), (2, 11), (2, 12), (3, 0), (3, 0)]), (1, 10, []), (1, 12, []), (1, 12, []), (1, 80, []), (1, 12, []), (1, 1080, []), (1, 90, []), (1, 90, []), (1, 90, []), (1, 90, []), (1, 90, [])]
theorem sg_23_len : sg_23.length = 13 := rfl
def sg_24 : List Sh := [(0, 6, [(3, 0), (3, 0), (3, 0), (3, 0), (0, 0), (0, 0), (0, 0)]), (0, 3, [(0, 0), (0, 0), (0, 0), (0, 0), (2, 2), (2, 3), (2, 4), (2, 5), (2, 6), (2, 7), (2, 8), (2, 9), (2, 10), (2, 11), (2, 12), (3, 0), (3, 0)]), (1, 10, []), (1, 12, []), (1, 12, []), (1, 80, []), (1, 12, []), (1, 1080, []), (1, 90, []), (1, 90, []), (1, 90, []), (1, 90, []), (1, 90, []), (1, 90, [])]
theorem sg_24_len : sg_24.length = 14 := rfl
def sg_25 : List Sh := [(0, 6, [(3, 0), (3, 0), (3, 0), (3, 0), (0, 0), (0, 0), (0, 0)]), (0, 3, [(0, 0), (0, 0), (0, 0), (0, 0), (2, 2), (2, 3), (2, 4), (2, 5), (2, 6), (2, 7), (2, 8), (2, 9), (2, 10), (2, 11), (2, 12), (2, 13), (3, 0)]), (1, 10, []), (1, 12, []), (1, 12, []), (1, 80, []), (1, 12, []), (1, 1080, []), (1, 90, []), (1, 90, []), (1, 90, []), (1, 90, []), (1, 90, []), (1, 90, [])]
theorem sg_25_len : sg_25.length = 14 := rfl
def sg_26 : List Sh := [(0, 6, [(3, 0), (3, 0), (3, 0), (3, 0), (0, 0), (0, 0), (0, 0)]), (0, 3, [(0, 0), (0, 0), (0, 0), (0, 0), (2, 2), (2, 3), (2, 4), (2, 5), (2, 6), (2, 7), (2, 8), (2, 9), (2, 10), (2, 11), (2, 12), (2, 13), (3, 0)]), (1, 10, []), (1, 12, []), (1, 12, []), (1, 80, []), (1, 12, []), (1, 1080, []), (1, 90, []), (1, 90, []), (1, 90, []), (1, 90, []), (1, 90, []), (1, 90, []), (1, 90, [])]
theorem sg_26_len : sg_26.length = 15 := rfl
def sg_27 : List Sh := [(0, 6, [(3, 0), (3, 0), (3, 0), (3, 0), (0, 0), (0, 0), (0, 0)]), (0, 3, [(0, 0), (0, 0), (0, 0), (0, 0), (2, 2), (2, 3), (2, 4), (2, 5), (2, 6), (2, 7), (2, 8), (2, 9), (2, 10), (2, 11), (2, 12), (2, 13), (2, 14)]), (1, 10, []), (1, 12, []), (1, 12, []), (1, 80, []), (1, 12, []), (1, 1080, []), (1, 90, []), (1, 90, []), (1, 90, []), (1, 90, []), (1, 90, []), (1, 90, []), (1, 90, [])]
theorem sg_27_len : sg_27.length = 15 := rfl
def sm_X3_init_1 (σ : Mm) : Mm := (flI (stI (stI (stI (stI (stI σ 1 0 1) 1 1 0) 1 2 0) 1 3 0) 2 0 1) 5 80 (-1))
theorem ci_X3_init_1_z {σ : Mm} (h : Zb σ 2) : Zb (sm_X3_init_1 σ) 15 := by
  unfold sm_X3_init_1
  exact (Zb.flI (Zb.stI (Zb.stI (Zb.stI (Zb.stI (Zb.stI (Zb.mono h (by decide)) (by decide)) (by decide)) (by decide)) (by decide)) (by decide)) (by decide))
theorem ci_X3_init_1_r {σ : Mm} (hR : Rg σ) : Rg (sm_X3_init_1 σ) := by
  unfold sm_X3_init_1
  exact (Rg.flI (Rg.stI (Rg.stI (Rg.stI (Rg.stI (Rg.stI hR (by decide)) (by decide)) (by decide)) (by decide)) (by decide)) (by decide))
theorem hd_X3_init : yX3_init.cls ≠ "java/lang/invoke/MethodHandle" ∧ yX3_init.cls ≠ "java/lang/invoke/VarHandle" ∧ (parseMethodDescriptor yX3_init.desc).map (fun d => d.parameters.length) = some 0 := by decide +kernel
set_option maxRecDepth 100000 in
set_option maxHeartbeats 4000000 in
theorem ci_X3_init_1 {l : Launch} {D : va_G} {ca : Nat → ClassId} {ad : Nat → Nat} {σ : Mm} {a0 : Nat} (h0 : ad 1 = a0) (hz : Zb σ 2) (hR : Rg σ) : CtN l D vcl ca NI yX3_init (Cond.code yX3_init cX3_init 1 none :: tbG) { frames := 1, cells := 13, slots := 1836, locals := 23 } [.ref a0] ad sg_1 σ sg_27 (sm_X3_init_1 σ) 13 1836 := by
  refine ct_N (shs := sg_1) (shs' := sg_27) RX3 rfl (by decide) rfl rfl (Nat.le_of_ble_eq_true rfl) (fun p e s m below meth c X hN hr hlk hin => ?_)
  show GN p l e _ s m _ below meth c (MQ below (QcN D vcl ca ad sg_1.length sg_27 (flI (stI (stI (stI (stI (stI σ 1 0 1) 1 1 0) 1 2 0) 1 3 0) 2 0 1) 5 80 (-1)) s.heap.size) _ s 13 1836 _) 1 D vcl ca _ ad sg_1 σ 0 [(0, .ref a0)] [] 0 0
  refine n_aload_n X dX3_init_0 0 rfl ?_
  refine n_obj X (List.mem_cons_of_mem _ mw_25) (List.mem_cons_of_mem _ mw_18) (List.mem_cons_of_mem _ mw_19) dX3_init_1 (by decide) (Nat.le_of_ble_eq_true rfl) ?_
  refine n_aload_n X dX3_init_4 0 rfl ?_
  refine n_iconst X dX3_init_5 ?_
  refine n_putI (shs := sg_1) (ty := .int) X (iXc3 _) (k := 1) rfl rfl 0 (by decide) tyX3 tyX3_ok nmX3 rfl (List.mem_cons_of_mem _ mw_29) (by decide +kernel) (by decide) (by decide) rfl h0 dX3_init_6 ?_
  replace hz : Zb (stI σ 1 0 1) 2 := Zb.stI hz (by decide)
  replace hR : Rg (stI σ 1 0 1) := Rg.stI hR (by decide)
  refine n_aload_n X dX3_init_9 0 rfl ?_
  refine n_iconst X dX3_init_10 ?_
  refine n_putI (shs := sg_1) (ty := .int) X (iXc3 _) (k := 1) rfl rfl 1 (by decide) tyX3 tyX3_ok nmX3 rfl (List.mem_cons_of_mem _ mw_32) (by decide +kernel) (by decide) (by decide) rfl h0 dX3_init_11 ?_
  replace hz : Zb (stI (stI σ 1 0 1) 1 1 0) 2 := Zb.stI hz (by decide)
  replace hR : Rg (stI (stI σ 1 0 1) 1 1 0) := Rg.stI hR (by decide)
  refine n_aload_n X dX3_init_14 0 rfl ?_
  refine n_iconst X dX3_init_15 ?_
  refine n_putI (shs := sg_1) (ty := .int) X (iXc3 _) (k := 1) rfl rfl 2 (by decide) tyX3 tyX3_ok nmX3 rfl (List.mem_cons_of_mem _ mw_34) (by decide +kernel) (by decide) (by decide) rfl h0 dX3_init_16 ?_
  replace hz : Zb (stI (stI (stI σ 1 0 1) 1 1 0) 1 2 0) 2 := Zb.stI hz (by decide)
  replace hR : Rg (stI (stI (stI σ 1 0 1) 1 1 0) 1 2 0) := Rg.stI hR (by decide)
  refine n_aload_n X dX3_init_19 0 rfl ?_
  refine n_iconst X dX3_init_20 ?_
  refine n_putI (shs := sg_1) (ty := .int) X (iXc3 _) (k := 1) rfl rfl 3 (by decide) tyX3 tyX3_ok nmX3 rfl (List.mem_cons_of_mem _ mw_36) (by decide +kernel) (by decide) (by decide) rfl h0 dX3_init_21 ?_
  replace hz : Zb (stI (stI (stI (stI σ 1 0 1) 1 1 0) 1 2 0) 1 3 0) 2 := Zb.stI hz (by decide)
  replace hR : Rg (stI (stI (stI (stI σ 1 0 1) 1 1 0) 1 2 0) 1 3 0) := Rg.stI hR (by decide)
  refine n_aload_n X dX3_init_24 0 rfl ?_
  refine n_bipush X dX3_init_25 (by decide) ?_
  refine n_arr (shs := sg_1) (shs' := sg_2) (atype := .int) (tg := 1) (n := 10) (ty := .int) (a0 := (10, .inl (fun _ => 0))) X Aw_new (List.mem_cons_of_mem _ mw_104) rfl (fun _ => rfl) (by decide) (by decide) (by decide) (by decide) (cel_I hz) rfl (by decide) dX3_init_27 (fun ad1 q1 hk1 hq1 => ?_)
  have ht1_1 : ad1 1 = a0 := (hk1 1 (by decide)).trans h0
  have hc1 : ∀ k, k < sg_1.length → ad1 k = ad k := fun k hk => (hk1 k (Nat.lt_of_lt_of_le hk (by decide))).trans ((fun _ _ => rfl) k hk)
  replace hz : Zb (stI (stI (stI (stI σ 1 0 1) 1 1 0) 1 2 0) 1 3 0) 3 := Zb.mono hz (by decide)
  refine n_putR (shs := sg_2) (shs' := sg_3) (ty := .array .int) (z := 2) X (iXc3 _) (k := 1) rfl rfl 4 (by decide) tyX3 tyX3_ok nmX3 rfl hin rfl (List.mem_cons_of_mem _ mw_37) (by decide +kernel) rfl rfl (by decide) ht1_1 hq1 rfl dX3_init_29 ?_
  refine n_aload_n X dX3_init_32 0 rfl ?_
  refine n_bipush X dX3_init_33 (by decide) ?_
  refine n_arr (shs := sg_3) (shs' := sg_4) (atype := .int) (tg := 1) (n := 12) (ty := .int) (a0 := (12, .inl (fun _ => 0))) X Aw_new (List.mem_cons_of_mem _ mw_104) rfl (fun _ => rfl) (by decide) (by decide) (by decide) (by decide) (cel_I hz) rfl (by decide) dX3_init_35 (fun ad2 q2 hk2 hq2 => ?_)
  have ht1_2 : ad2 1 = a0 := (hk2 1 (by decide)).trans ht1_1
  have ht2_2 : ad2 2 = q1 := (hk2 2 (by decide)).trans hq1
  have hc2 : ∀ k, k < sg_1.length → ad2 k = ad k := fun k hk => (hk2 k (Nat.lt_of_lt_of_le hk (by decide))).trans (hc1 k hk)
  replace hz : Zb (stI (stI (stI (stI σ 1 0 1) 1 1 0) 1 2 0) 1 3 0) 4 := Zb.mono hz (by decide)
  refine n_putR (shs := sg_4) (shs' := sg_5) (ty := .array .int) (z := 3) X (iXc3 _) (k := 1) rfl rfl 5 (by decide) tyX3 tyX3_ok nmX3 rfl hin rfl (List.mem_cons_of_mem _ mw_38) (by decide +kernel) rfl rfl (by decide) ht1_2 hq2 rfl dX3_init_37 ?_
  refine n_aload_n X dX3_init_40 0 rfl ?_
  refine n_bipush X dX3_init_41 (by decide) ?_
  refine n_arr (shs := sg_5) (shs' := sg_6) (atype := .int) (tg := 1) (n := 12) (ty := .int) (a0 := (12, .inl (fun _ => 0))) X Aw_new (List.mem_cons_of_mem _ mw_104) rfl (fun _ => rfl) (by decide) (by decide) (by decide) (by decide) (cel_I hz) rfl (by decide) dX3_init_43 (fun ad3 q3 hk3 hq3 => ?_)
  have ht1_3 : ad3 1 = a0 := (hk3 1 (by decide)).trans ht1_2
  have ht2_3 : ad3 2 = q1 := (hk3 2 (by decide)).trans ht2_2
  have ht3_3 : ad3 3 = q2 := (hk3 3 (by decide)).trans hq2
  have hc3 : ∀ k, k < sg_1.length → ad3 k = ad k := fun k hk => (hk3 k (Nat.lt_of_lt_of_le hk (by decide))).trans (hc2 k hk)
  replace hz : Zb (stI (stI (stI (stI σ 1 0 1) 1 1 0) 1 2 0) 1 3 0) 5 := Zb.mono hz (by decide)
  refine n_putR (shs := sg_6) (shs' := sg_7) (ty := .array .int) (z := 4) X (iXc3 _) (k := 1) rfl rfl 6 (by decide) tyX3 tyX3_ok nmX3 rfl hin rfl (List.mem_cons_of_mem _ mw_39) (by decide +kernel) rfl rfl (by decide) ht1_3 hq3 rfl dX3_init_45 ?_
  refine n_aload_n X dX3_init_48 0 rfl ?_
  refine n_bipush X dX3_init_49 (by decide) ?_
  refine n_arr (shs := sg_7) (shs' := sg_8) (atype := .int) (tg := 1) (n := 80) (ty := .int) (a0 := (80, .inl (fun _ => 0))) X Aw_new (List.mem_cons_of_mem _ mw_104) rfl (fun _ => rfl) (by decide) (by decide) (by decide) (by decide) (cel_I hz) rfl (by decide) dX3_init_51 (fun ad4 q4 hk4 hq4 => ?_)
  have ht1_4 : ad4 1 = a0 := (hk4 1 (by decide)).trans ht1_3
  have ht2_4 : ad4 2 = q1 := (hk4 2 (by decide)).trans ht2_3
  have ht3_4 : ad4 3 = q2 := (hk4 3 (by decide)).trans ht3_3
  have ht4_4 : ad4 4 = q3 := (hk4 4 (by decide)).trans hq3
  have hc4 : ∀ k, k < sg_1.length → ad4 k = ad k := fun k hk => (hk4 k (Nat.lt_of_lt_of_le hk (by decide))).trans (hc3 k hk)
  replace hz : Zb (stI (stI (stI (stI σ 1 0 1) 1 1 0) 1 2 0) 1 3 0) 6 := Zb.mono hz (by decide)
  refine n_putR (shs := sg_8) (shs' := sg_9) (ty := .array .int) (z := 5) X (iXc3 _) (k := 1) rfl rfl 7 (by decide) tyX3 tyX3_ok nmX3 rfl hin rfl (List.mem_cons_of_mem _ mw_40) (by decide +kernel) rfl rfl (by decide) ht1_4 hq4 rfl dX3_init_53 ?_
  refine n_aload_n X dX3_init_56 0 rfl ?_
  refine n_bipush X dX3_init_57 (by decide) ?_
  refine n_arr (shs := sg_9) (shs' := sg_10) (atype := .int) (tg := 1) (n := 12) (ty := .int) (a0 := (12, .inl (fun _ => 0))) X Aw_new (List.mem_cons_of_mem _ mw_104) rfl (fun _ => rfl) (by decide) (by decide) (by decide) (by decide) (cel_I hz) rfl (by decide) dX3_init_59 (fun ad5 q5 hk5 hq5 => ?_)
  have ht1_5 : ad5 1 = a0 := (hk5 1 (by decide)).trans ht1_4
  have ht2_5 : ad5 2 = q1 := (hk5 2 (by decide)).trans ht2_4
  have ht3_5 : ad5 3 = q2 := (hk5 3 (by decide)).trans ht3_4
  have ht4_5 : ad5 4 = q3 := (hk5 4 (by decide)).trans ht4_4
  have ht5_5 : ad5 5 = q4 := (hk5 5 (by decide)).trans hq4
  have hc5 : ∀ k, k < sg_1.length → ad5 k = ad k := fun k hk => (hk5 k (Nat.lt_of_lt_of_le hk (by decide))).trans (hc4 k hk)
  replace hz : Zb (stI (stI (stI (stI σ 1 0 1) 1 1 0) 1 2 0) 1 3 0) 7 := Zb.mono hz (by decide)
  refine n_putR (shs := sg_10) (shs' := sg_11) (ty := .array .int) (z := 6) X (iXc3 _) (k := 1) rfl rfl 8 (by decide) tyX3 tyX3_ok nmX3 rfl hin rfl (List.mem_cons_of_mem _ mw_41) (by decide +kernel) rfl rfl (by decide) ht1_5 hq5 rfl dX3_init_61 ?_
  refine n_aload_n X dX3_init_64 0 rfl ?_
  refine n_sipush X dX3_init_65 (by decide) ?_
  refine n_arr (shs := sg_11) (shs' := sg_12) (atype := .int) (tg := 1) (n := 1080) (ty := .int) (a0 := (1080, .inl (fun _ => 0))) X Aw_new (List.mem_cons_of_mem _ mw_104) rfl (fun _ => rfl) (by decide) (by decide) (by decide) (by decide) (cel_I hz) rfl (by decide) dX3_init_68 (fun ad6 q6 hk6 hq6 => ?_)
  have ht1_6 : ad6 1 = a0 := (hk6 1 (by decide)).trans ht1_5
  have ht2_6 : ad6 2 = q1 := (hk6 2 (by decide)).trans ht2_5
  have ht3_6 : ad6 3 = q2 := (hk6 3 (by decide)).trans ht3_5
  have ht4_6 : ad6 4 = q3 := (hk6 4 (by decide)).trans ht4_5
  have ht5_6 : ad6 5 = q4 := (hk6 5 (by decide)).trans ht5_5
  have ht6_6 : ad6 6 = q5 := (hk6 6 (by decide)).trans hq5
  have hc6 : ∀ k, k < sg_1.length → ad6 k = ad k := fun k hk => (hk6 k (Nat.lt_of_lt_of_le hk (by decide))).trans (hc5 k hk)
  replace hz : Zb (stI (stI (stI (stI σ 1 0 1) 1 1 0) 1 2 0) 1 3 0) 8 := Zb.mono hz (by decide)
  refine n_putR (shs := sg_12) (shs' := sg_13) (ty := .array .int) (z := 7) X (iXc3 _) (k := 1) rfl rfl 9 (by decide) tyX3 tyX3_ok nmX3 rfl hin rfl (List.mem_cons_of_mem _ mw_43) (by decide +kernel) rfl rfl (by decide) ht1_6 hq6 rfl dX3_init_70 ?_
  refine n_aload_n X dX3_init_73 0 rfl ?_
  refine n_bipush X dX3_init_74 (by decide) ?_
  refine n_arr (shs := sg_13) (shs' := sg_14) (atype := .int) (tg := 1) (n := 90) (ty := .int) (a0 := (90, .inl (fun _ => 0))) X Aw_new (List.mem_cons_of_mem _ mw_104) rfl (fun _ => rfl) (by decide) (by decide) (by decide) (by decide) (cel_I hz) rfl (by decide) dX3_init_76 (fun ad7 q7 hk7 hq7 => ?_)
  have ht1_7 : ad7 1 = a0 := (hk7 1 (by decide)).trans ht1_6
  have ht2_7 : ad7 2 = q1 := (hk7 2 (by decide)).trans ht2_6
  have ht3_7 : ad7 3 = q2 := (hk7 3 (by decide)).trans ht3_6
  have ht4_7 : ad7 4 = q3 := (hk7 4 (by decide)).trans ht4_6
  have ht5_7 : ad7 5 = q4 := (hk7 5 (by decide)).trans ht5_6
  have ht6_7 : ad7 6 = q5 := (hk7 6 (by decide)).trans ht6_6
  have ht7_7 : ad7 7 = q6 := (hk7 7 (by decide)).trans hq6
  have hc7 : ∀ k, k < sg_1.length → ad7 k = ad k := fun k hk => (hk7 k (Nat.lt_of_lt_of_le hk (by decide))).trans (hc6 k hk)
  replace hz : Zb (stI (stI (stI (stI σ 1 0 1) 1 1 0) 1 2 0) 1 3 0) 9 := Zb.mono hz (by decide)
  refine n_putR (shs := sg_14) (shs' := sg_15) (ty := .array .int) (z := 8) X (iXc3 _) (k := 1) rfl rfl 10 (by decide) tyX3 tyX3_ok nmX3 rfl hin rfl (List.mem_cons_of_mem _ mw_44) (by decide +kernel) rfl rfl (by decide) ht1_7 hq7 rfl dX3_init_78 ?_
  refine n_aload_n X dX3_init_81 0 rfl ?_
  refine n_bipush X dX3_init_82 (by decide) ?_
  refine n_arr (shs := sg_15) (shs' := sg_16) (atype := .int) (tg := 1) (n := 90) (ty := .int) (a0 := (90, .inl (fun _ => 0))) X Aw_new (List.mem_cons_of_mem _ mw_104) rfl (fun _ => rfl) (by decide) (by decide) (by decide) (by decide) (cel_I hz) rfl (by decide) dX3_init_84 (fun ad8 q8 hk8 hq8 => ?_)
  have ht1_8 : ad8 1 = a0 := (hk8 1 (by decide)).trans ht1_7
  have ht2_8 : ad8 2 = q1 := (hk8 2 (by decide)).trans ht2_7
  have ht3_8 : ad8 3 = q2 := (hk8 3 (by decide)).trans ht3_7
  have ht4_8 : ad8 4 = q3 := (hk8 4 (by decide)).trans ht4_7
  have ht5_8 : ad8 5 = q4 := (hk8 5 (by decide)).trans ht5_7
  have ht6_8 : ad8 6 = q5 := (hk8 6 (by decide)).trans ht6_7
  have ht7_8 : ad8 7 = q6 := (hk8 7 (by decide)).trans ht7_7
  have ht8_8 : ad8 8 = q7 := (hk8 8 (by decide)).trans hq7
  have hc8 : ∀ k, k < sg_1.length → ad8 k = ad k := fun k hk => (hk8 k (Nat.lt_of_lt_of_le hk (by decide))).trans (hc7 k hk)
  replace hz : Zb (stI (stI (stI (stI σ 1 0 1) 1 1 0) 1 2 0) 1 3 0) 10 := Zb.mono hz (by decide)
  refine n_putR (shs := sg_16) (shs' := sg_17) (ty := .array .int) (z := 9) X (iXc3 _) (k := 1) rfl rfl 11 (by decide) tyX3 tyX3_ok nmX3 rfl hin rfl (List.mem_cons_of_mem _ mw_49) (by decide +kernel) rfl rfl (by decide) ht1_8 hq8 rfl dX3_init_86 ?_
  refine n_aload_n X dX3_init_89 0 rfl ?_
  refine n_bipush X dX3_init_90 (by decide) ?_
  refine n_arr (shs := sg_17) (shs' := sg_18) (atype := .int) (tg := 1) (n := 90) (ty := .int) (a0 := (90, .inl (fun _ => 0))) X Aw_new (List.mem_cons_of_mem _ mw_104) rfl (fun _ => rfl) (by decide) (by decide) (by decide) (by decide) (cel_I hz) rfl (by decide) dX3_init_92 (fun ad9 q9 hk9 hq9 => ?_)
  have ht1_9 : ad9 1 = a0 := (hk9 1 (by decide)).trans ht1_8
  have ht2_9 : ad9 2 = q1 := (hk9 2 (by decide)).trans ht2_8
  have ht3_9 : ad9 3 = q2 := (hk9 3 (by decide)).trans ht3_8
  have ht4_9 : ad9 4 = q3 := (hk9 4 (by decide)).trans ht4_8
  have ht5_9 : ad9 5 = q4 := (hk9 5 (by decide)).trans ht5_8
  have ht6_9 : ad9 6 = q5 := (hk9 6 (by decide)).trans ht6_8
  have ht7_9 : ad9 7 = q6 := (hk9 7 (by decide)).trans ht7_8
  have ht8_9 : ad9 8 = q7 := (hk9 8 (by decide)).trans ht8_8
  have ht9_9 : ad9 9 = q8 := (hk9 9 (by decide)).trans hq8
  have hc9 : ∀ k, k < sg_1.length → ad9 k = ad k := fun k hk => (hk9 k (Nat.lt_of_lt_of_le hk (by decide))).trans (hc8 k hk)
  replace hz : Zb (stI (stI (stI (stI σ 1 0 1) 1 1 0) 1 2 0) 1 3 0) 11 := Zb.mono hz (by decide)
  refine n_putR (shs := sg_18) (shs' := sg_19) (ty := .array .int) (z := 10) X (iXc3 _) (k := 1) rfl rfl 12 (by decide) tyX3 tyX3_ok nmX3 rfl hin rfl (List.mem_cons_of_mem _ mw_52) (by decide +kernel) rfl rfl (by decide) ht1_9 hq9 rfl dX3_init_94 ?_
  refine n_aload_n X dX3_init_97 0 rfl ?_
  refine n_bipush X dX3_init_98 (by decide) ?_
  refine n_arr (shs := sg_19) (shs' := sg_20) (atype := .int) (tg := 1) (n := 90) (ty := .int) (a0 := (90, .inl (fun _ => 0))) X Aw_new (List.mem_cons_of_mem _ mw_104) rfl (fun _ => rfl) (by decide) (by decide) (by decide) (by decide) (cel_I hz) rfl (by decide) dX3_init_100 (fun ad10 q10 hk10 hq10 => ?_)
  have ht1_10 : ad10 1 = a0 := (hk10 1 (by decide)).trans ht1_9
  have ht2_10 : ad10 2 = q1 := (hk10 2 (by decide)).trans ht2_9
  have ht3_10 : ad10 3 = q2 := (hk10 3 (by decide)).trans ht3_9
  have ht4_10 : ad10 4 = q3 := (hk10 4 (by decide)).trans ht4_9
  have ht5_10 : ad10 5 = q4 := (hk10 5 (by decide)).trans ht5_9
  have ht6_10 : ad10 6 = q5 := (hk10 6 (by decide)).trans ht6_9
  have ht7_10 : ad10 7 = q6 := (hk10 7 (by decide)).trans ht7_9
  have ht8_10 : ad10 8 = q7 := (hk10 8 (by decide)).trans ht8_9
  have ht9_10 : ad10 9 = q8 := (hk10 9 (by decide)).trans ht9_9
  have ht10_10 : ad10 10 = q9 := (hk10 10 (by decide)).trans hq9
  have hc10 : ∀ k, k < sg_1.length → ad10 k = ad k := fun k hk => (hk10 k (Nat.lt_of_lt_of_le hk (by decide))).trans (hc9 k hk)
  replace hz : Zb (stI (stI (stI (stI σ 1 0 1) 1 1 0) 1 2 0) 1 3 0) 12 := Zb.mono hz (by decide)
  refine n_putR (shs := sg_20) (shs' := sg_21) (ty := .array .int) (z := 11) X (iXc3 _) (k := 1) rfl rfl 13 (by decide) tyX3 tyX3_ok nmX3 rfl hin rfl (List.mem_cons_of_mem _ mw_57) (by decide +kernel) rfl rfl (by decide) ht1_10 hq10 rfl dX3_init_102 ?_
  refine n_aload_n X dX3_init_105 0 rfl ?_
  refine n_bipush X dX3_init_106 (by decide) ?_
  refine n_arr (shs := sg_21) (shs' := sg_22) (atype := .int) (tg := 1) (n := 90) (ty := .int) (a0 := (90, .inl (fun _ => 0))) X Aw_new (List.mem_cons_of_mem _ mw_104) rfl (fun _ => rfl) (by decide) (by decide) (by decide) (by decide) (cel_I hz) rfl (by decide) dX3_init_108 (fun ad11 q11 hk11 hq11 => ?_)
  have ht1_11 : ad11 1 = a0 := (hk11 1 (by decide)).trans ht1_10
  have ht2_11 : ad11 2 = q1 := (hk11 2 (by decide)).trans ht2_10
  have ht3_11 : ad11 3 = q2 := (hk11 3 (by decide)).trans ht3_10
  have ht4_11 : ad11 4 = q3 := (hk11 4 (by decide)).trans ht4_10
  have ht5_11 : ad11 5 = q4 := (hk11 5 (by decide)).trans ht5_10
  have ht6_11 : ad11 6 = q5 := (hk11 6 (by decide)).trans ht6_10
  have ht7_11 : ad11 7 = q6 := (hk11 7 (by decide)).trans ht7_10
  have ht8_11 : ad11 8 = q7 := (hk11 8 (by decide)).trans ht8_10
  have ht9_11 : ad11 9 = q8 := (hk11 9 (by decide)).trans ht9_10
  have ht10_11 : ad11 10 = q9 := (hk11 10 (by decide)).trans ht10_10
  have ht11_11 : ad11 11 = q10 := (hk11 11 (by decide)).trans hq10
  have hc11 : ∀ k, k < sg_1.length → ad11 k = ad k := fun k hk => (hk11 k (Nat.lt_of_lt_of_le hk (by decide))).trans (hc10 k hk)
  replace hz : Zb (stI (stI (stI (stI σ 1 0 1) 1 1 0) 1 2 0) 1 3 0) 13 := Zb.mono hz (by decide)
  refine n_putR (shs := sg_22) (shs' := sg_23) (ty := .array .int) (z := 12) X (iXc3 _) (k := 1) rfl rfl 14 (by decide) tyX3 tyX3_ok nmX3 rfl hin rfl (List.mem_cons_of_mem _ mw_61) (by decide +kernel) rfl rfl (by decide) ht1_11 hq11 rfl dX3_init_110 ?_
  refine n_aload_n X dX3_init_113 0 rfl ?_
  refine n_bipush X dX3_init_114 (by decide) ?_
  refine n_arr (shs := sg_23) (shs' := sg_24) (atype := .int) (tg := 1) (n := 90) (ty := .int) (a0 := (90, .inl (fun _ => 0))) X Aw_new (List.mem_cons_of_mem _ mw_104) rfl (fun _ => rfl) (by decide) (by decide) (by decide) (by decide) (cel_I hz) rfl (by decide) dX3_init_116 (fun ad12 q12 hk12 hq12 => ?_)
  have ht1_12 : ad12 1 = a0 := (hk12 1 (by decide)).trans ht1_11
  have ht2_12 : ad12 2 = q1 := (hk12 2 (by decide)).trans ht2_11
  have ht3_12 : ad12 3 = q2 := (hk12 3 (by decide)).trans ht3_11
  have ht4_12 : ad12 4 = q3 := (hk12 4 (by decide)).trans ht4_11
  have ht5_12 : ad12 5 = q4 := (hk12 5 (by decide)).trans ht5_11
  have ht6_12 : ad12 6 = q5 := (hk12 6 (by decide)).trans ht6_11
  have ht7_12 : ad12 7 = q6 := (hk12 7 (by decide)).trans ht7_11
  have ht8_12 : ad12 8 = q7 := (hk12 8 (by decide)).trans ht8_11
  have ht9_12 : ad12 9 = q8 := (hk12 9 (by decide)).trans ht9_11
  have ht10_12 : ad12 10 = q9 := (hk12 10 (by decide)).trans ht10_11
  have ht11_12 : ad12 11 = q10 := (hk12 11 (by decide)).trans ht11_11
  have ht12_12 : ad12 12 = q11 := (hk12 12 (by decide)).trans hq11
  have hc12 : ∀ k, k < sg_1.length → ad12 k = ad k := fun k hk => (hk12 k (Nat.lt_of_lt_of_le hk (by decide))).trans (hc11 k hk)
  replace hz : Zb (stI (stI (stI (stI σ 1 0 1) 1 1 0) 1 2 0) 1 3 0) 14 := Zb.mono hz (by decide)
  refine n_putR (shs := sg_24) (shs' := sg_25) (ty := .array .int) (z := 13) X (iXc3 _) (k := 1) rfl rfl 15 (by decide) tyX3 tyX3_ok nmX3 rfl hin rfl (List.mem_cons_of_mem _ mw_64) (by decide +kernel) rfl rfl (by decide) ht1_12 hq12 rfl dX3_init_118 ?_
  refine n_aload_n X dX3_init_121 0 rfl ?_
  refine n_bipush X dX3_init_122 (by decide) ?_
  refine n_arr (shs := sg_25) (shs' := sg_26) (atype := .int) (tg := 1) (n := 90) (ty := .int) (a0 := (90, .inl (fun _ => 0))) X Aw_new (List.mem_cons_of_mem _ mw_104) rfl (fun _ => rfl) (by decide) (by decide) (by decide) (by decide) (cel_I hz) rfl (by decide) dX3_init_124 (fun ad13 q13 hk13 hq13 => ?_)
  have ht1_13 : ad13 1 = a0 := (hk13 1 (by decide)).trans ht1_12
  have ht2_13 : ad13 2 = q1 := (hk13 2 (by decide)).trans ht2_12
  have ht3_13 : ad13 3 = q2 := (hk13 3 (by decide)).trans ht3_12
  have ht4_13 : ad13 4 = q3 := (hk13 4 (by decide)).trans ht4_12
  have ht5_13 : ad13 5 = q4 := (hk13 5 (by decide)).trans ht5_12
  have ht6_13 : ad13 6 = q5 := (hk13 6 (by decide)).trans ht6_12
  have ht7_13 : ad13 7 = q6 := (hk13 7 (by decide)).trans ht7_12
  have ht8_13 : ad13 8 = q7 := (hk13 8 (by decide)).trans ht8_12
  have ht9_13 : ad13 9 = q8 := (hk13 9 (by decide)).trans ht9_12
  have ht10_13 : ad13 10 = q9 := (hk13 10 (by decide)).trans ht10_12
  have ht11_13 : ad13 11 = q10 := (hk13 11 (by decide)).trans ht11_12
  have ht12_13 : ad13 12 = q11 := (hk13 12 (by decide)).trans ht12_12
  have ht13_13 : ad13 13 = q12 := (hk13 13 (by decide)).trans hq12
  have hc13 : ∀ k, k < sg_1.length → ad13 k = ad k := fun k hk => (hk13 k (Nat.lt_of_lt_of_le hk (by decide))).trans (hc12 k hk)
  replace hz : Zb (stI (stI (stI (stI σ 1 0 1) 1 1 0) 1 2 0) 1 3 0) 15 := Zb.mono hz (by decide)
  refine n_putR (shs := sg_26) (shs' := sg_27) (ty := .array .int) (z := 14) X (iXc3 _) (k := 1) rfl rfl 16 (by decide) tyX3 tyX3_ok nmX3 rfl hin rfl (List.mem_cons_of_mem _ mw_66) (by decide +kernel) rfl rfl (by decide) ht1_13 hq13 rfl dX3_init_126 ?_
  refine n_aload_n X dX3_init_129 0 rfl ?_
  refine n_getR (shs := sg_27) (z := 2) X (iXc3 _) (k := 1) rfl rfl 4 (by decide) rfl (List.mem_cons_of_mem _ mw_37) ht1_13 ht2_13 dX3_init_130 ?_
  refine n_iconst X dX3_init_133 ?_
  refine n_iconst X dX3_init_134 ?_
  refine n_iast (shs := sg_27) (k := 2) X rfl (by decide) (by decide) ht2_13 dX3_init_135 ?_
  replace hz : Zb (stI (stI (stI (stI (stI σ 1 0 1) 1 1 0) 1 2 0) 1 3 0) 2 0 1) 15 := Zb.stI hz (by decide)
  replace hR : Rg (stI (stI (stI (stI (stI σ 1 0 1) 1 1 0) 1 2 0) 1 3 0) 2 0 1) := Rg.stI hR (by decide)
  refine n_aload_n X dX3_init_136 0 rfl ?_
  refine n_getR (shs := sg_27) (z := 5) X (iXc3 _) (k := 1) rfl rfl 7 (by decide) rfl (List.mem_cons_of_mem _ mw_40) ht1_13 ht5_13 dX3_init_137 ?_
  refine n_iconst X dX3_init_140 ?_
  have he141 := ht5_13
  refine n_callV (shs := sg_27) (N := NM) X NMok trivial Aw_new hR (fillI_eq (by decide)) (c_J7_fill_53178 (nq1 := 80) (q1 := 5) rfl (by decide) (x1 := (-1)) (by decide)) (rnN_S X (va_cwS 2 X.2.2.2.2.1 (tbG_good _ (tbG_S mw_26 mw_27 mw_3 mw_28)) rfl rfl rfl hd_J7_fill_53178 ⟨by decide, by decide⟩) rfl (by rw [he141]; rfl) (Nat.le_of_ble_eq_true rfl) dX3_init_141 ⟨by decide, by decide⟩) ?_
  replace hz : Zb (flI (stI (stI (stI (stI (stI σ 1 0 1) 1 1 0) 1 2 0) 1 3 0) 2 0 1) 5 80 (-1)) 15 := Zb.flI hz (by decide)
  replace hR : Rg (flI (stI (stI (stI (stI (stI σ 1 0 1) 1 1 0) 1 2 0) 1 3 0) 2 0 1) 5 80 (-1)) := Rg.flI hR (by decide)
  exact n_vret X hr hlk hc13 dX3_init_144
def sg_28 : List Sh := [(0, 6, [(2, 1), (3, 0), (3, 0), (3, 0), (0, 0), (0, 0), (0, 0)]), (0, 3, [(0, 0), (0, 0), (0, 0), (0, 0), (2, 2), (2, 3), (2, 4), (2, 5), (2, 6), (2, 7), (2, 8), (2, 9), (2, 10), (2, 11), (2, 12), (2, 13), (2, 14)]), (1, 10, []), (1, 12, []), (1, 12, []), (1, 80, []), (1, 12, []), (1, 1080, []), (1, 90, []), (1, 90, []), (1, 90, []), (1, 90, []), (1, 90, []), (1, 90, []), (1, 90, [])]
theorem sg_28_len : sg_28.length = 15 := rfl
def sg_29 : List Sh := [(0, 6, [(2, 1), (3, 0), (3, 0), (3, 0), (0, 0), (0, 0), (0, 0)]), (0, 3, [(0, 0), (0, 0), (0, 0), (0, 0), (2, 2), (2, 3), (2, 4), (2, 5), (2, 6), (2, 7), (2, 8), (2, 9), (2, 10), (2, 11), (2, 12), (2, 13), (2, 14)]), (1, 10, []), (1, 12, []), (1, 12, []), (1, 80, []), (1, 12, []), (1, 1080, []), (1, 90, []), (1, 90, []), (1, 90, []), (1, 90, []), (1, 90, []), (1, 90, []), (1, 90, []), (0, 0, [(3, 0), (3, 0), (3, 0), (3, 0), (3, 0), (3, 0), (1, 0), (0, 0), (0, 0), (3, 0), (3, 0), (3, 0), (3, 0)])]
theorem sg_29_len : sg_29.length = 16 := rfl
def sg_30 : List Sh := [(0, 6, [(2, 1), (3, 0), (3, 0), (3, 0), (0, 0), (0, 0), (0, 0)]), (0, 3, [(0, 0), (0, 0), (0, 0), (0, 0), (2, 2), (2, 3), (2, 4), (2, 5), (2, 6), (2, 7), (2, 8), (2, 9), (2, 10), (2, 11), (2, 12), (2, 13), (2, 14)]), (1, 10, []), (1, 12, []), (1, 12, []), (1, 80, []), (1, 12, []), (1, 1080, []), (1, 90, []), (1, 90, []), (1, 90, []), (1, 90, []), (1, 90, []), (1, 90, []), (1, 90, []), (0, 0, [(3, 0), (3, 0), (3, 0), (3, 0), (3, 0), (3, 0), (1, 0), (0, 0), (0, 0), (3, 0), (3, 0), (3, 0), (3, 0)]), (2, 640, [])]
theorem sg_30_len : sg_30.length = 17 := rfl
def sg_31 : List Sh := [(0, 6, [(2, 1), (3, 0), (3, 0), (3, 0), (0, 0), (0, 0), (0, 0)]), (0, 3, [(0, 0), (0, 0), (0, 0), (0, 0), (2, 2), (2, 3), (2, 4), (2, 5), (2, 6), (2, 7), (2, 8), (2, 9), (2, 10), (2, 11), (2, 12), (2, 13), (2, 14)]), (1, 10, []), (1, 12, []), (1, 12, []), (1, 80, []), (1, 12, []), (1, 1080, []), (1, 90, []), (1, 90, []), (1, 90, []), (1, 90, []), (1, 90, []), (1, 90, []), (1, 90, []), (0, 0, [(3, 0), (3, 0), (2, 16), (3, 0), (3, 0), (3, 0), (1, 0), (0, 0), (0, 0), (3, 0), (3, 0), (3, 0), (3, 0)]), (2, 640, [])]
theorem sg_31_len : sg_31.length = 17 := rfl
def sg_32 : List Sh := [(0, 6, [(2, 1), (3, 0), (3, 0), (3, 0), (0, 0), (0, 0), (0, 0)]), (0, 3, [(0, 0), (0, 0), (0, 0), (0, 0), (2, 2), (2, 3), (2, 4), (2, 5), (2, 6), (2, 7), (2, 8), (2, 9), (2, 10), (2, 11), (2, 12), (2, 13), (2, 14)]), (1, 10, []), (1, 12, []), (1, 12, []), (1, 80, []), (1, 12, []), (1, 1080, []), (1, 90, []), (1, 90, []), (1, 90, []), (1, 90, []), (1, 90, []), (1, 90, []), (1, 90, []), (0, 0, [(3, 0), (3, 0), (2, 16), (3, 0), (3, 0), (3, 0), (1, 0), (0, 0), (0, 0), (3, 0), (3, 0), (3, 0), (3, 0)]), (2, 640, []), (2, 300, [])]
theorem sg_32_len : sg_32.length = 18 := rfl
def sg_33 : List Sh := [(0, 6, [(2, 1), (3, 0), (3, 0), (3, 0), (0, 0), (0, 0), (0, 0)]), (0, 3, [(0, 0), (0, 0), (0, 0), (0, 0), (2, 2), (2, 3), (2, 4), (2, 5), (2, 6), (2, 7), (2, 8), (2, 9), (2, 10), (2, 11), (2, 12), (2, 13), (2, 14)]), (1, 10, []), (1, 12, []), (1, 12, []), (1, 80, []), (1, 12, []), (1, 1080, []), (1, 90, []), (1, 90, []), (1, 90, []), (1, 90, []), (1, 90, []), (1, 90, []), (1, 90, []), (0, 0, [(3, 0), (3, 0), (2, 16), (2, 17), (3, 0), (3, 0), (1, 0), (0, 0), (0, 0), (3, 0), (3, 0), (3, 0), (3, 0)]), (2, 640, []), (2, 300, [])]
theorem sg_33_len : sg_33.length = 18 := rfl
def sg_34 : List Sh := [(0, 6, [(2, 1), (3, 0), (3, 0), (3, 0), (0, 0), (0, 0), (0, 0)]), (0, 3, [(0, 0), (0, 0), (0, 0), (0, 0), (2, 2), (2, 3), (2, 4), (2, 5), (2, 6), (2, 7), (2, 8), (2, 9), (2, 10), (2, 11), (2, 12), (2, 13), (2, 14)]), (1, 10, []), (1, 12, []), (1, 12, []), (1, 80, []), (1, 12, []), (1, 1080, []), (1, 90, []), (1, 90, []), (1, 90, []), (1, 90, []), (1, 90, []), (1, 90, []), (1, 90, []), (0, 0, [(3, 0), (3, 0), (2, 16), (2, 17), (3, 0), (3, 0), (1, 0), (0, 0), (0, 0), (3, 0), (3, 0), (3, 0), (3, 0)]), (2, 640, []), (2, 300, []), (2, 4, [])]
theorem sg_34_len : sg_34.length = 19 := rfl
def sg_35 : List Sh := [(0, 6, [(2, 1), (3, 0), (3, 0), (3, 0), (0, 0), (0, 0), (0, 0)]), (0, 3, [(0, 0), (0, 0), (0, 0), (0, 0), (2, 2), (2, 3), (2, 4), (2, 5), (2, 6), (2, 7), (2, 8), (2, 9), (2, 10), (2, 11), (2, 12), (2, 13), (2, 14)]), (1, 10, []), (1, 12, []), (1, 12, []), (1, 80, []), (1, 12, []), (1, 1080, []), (1, 90, []), (1, 90, []), (1, 90, []), (1, 90, []), (1, 90, []), (1, 90, []), (1, 90, []), (0, 0, [(3, 0), (3, 0), (2, 16), (2, 17), (2, 18), (3, 0), (1, 0), (0, 0), (0, 0), (3, 0), (3, 0), (3, 0), (3, 0)]), (2, 640, []), (2, 300, []), (2, 4, [])]
theorem sg_35_len : sg_35.length = 19 := rfl
def sg_36 : List Sh := [(0, 6, [(2, 1), (3, 0), (3, 0), (3, 0), (0, 0), (0, 0), (0, 0)]), (0, 3, [(0, 0), (0, 0), (0, 0), (0, 0), (2, 2), (2, 3), (2, 4), (2, 5), (2, 6), (2, 7), (2, 8), (2, 9), (2, 10), (2, 11), (2, 12), (2, 13), (2, 14)]), (1, 10, []), (1, 12, []), (1, 12, []), (1, 80, []), (1, 12, []), (1, 1080, []), (1, 90, []), (1, 90, []), (1, 90, []), (1, 90, []), (1, 90, []), (1, 90, []), (1, 90, []), (0, 0, [(3, 0), (3, 0), (2, 16), (2, 17), (2, 18), (3, 0), (1, 0), (0, 0), (0, 0), (3, 0), (3, 0), (3, 0), (3, 0)]), (2, 640, []), (2, 300, []), (2, 4, []), (2, 10, [])]
theorem sg_36_len : sg_36.length = 20 := rfl
def sg_37 : List Sh := [(0, 6, [(2, 1), (3, 0), (3, 0), (3, 0), (0, 0), (0, 0), (0, 0)]), (0, 3, [(0, 0), (0, 0), (0, 0), (0, 0), (2, 2), (2, 3), (2, 4), (2, 5), (2, 6), (2, 7), (2, 8), (2, 9), (2, 10), (2, 11), (2, 12), (2, 13), (2, 14)]), (1, 10, []), (1, 12, []), (1, 12, []), (1, 80, []), (1, 12, []), (1, 1080, []), (1, 90, []), (1, 90, []), (1, 90, []), (1, 90, []), (1, 90, []), (1, 90, []), (1, 90, []), (0, 0, [(3, 0), (3, 0), (2, 16), (2, 17), (2, 18), (2, 19), (1, 0), (0, 0), (0, 0), (3, 0), (3, 0), (3, 0), (3, 0)]), (2, 640, []), (2, 300, []), (2, 4, []), (2, 10, [])]
theorem sg_37_len : sg_37.length = 20 := rfl
def sg_38 : List Sh := [(0, 6, [(2, 1), (3, 0), (3, 0), (3, 0), (0, 0), (0, 0), (0, 0)]), (0, 3, [(0, 0), (0, 0), (0, 0), (0, 0), (2, 2), (2, 3), (2, 4), (2, 5), (2, 6), (2, 7), (2, 8), (2, 9), (2, 10), (2, 11), (2, 12), (2, 13), (2, 14)]), (1, 10, []), (1, 12, []), (1, 12, []), (1, 80, []), (1, 12, []), (1, 1080, []), (1, 90, []), (1, 90, []), (1, 90, []), (1, 90, []), (1, 90, []), (1, 90, []), (1, 90, []), (0, 0, [(3, 0), (3, 0), (2, 16), (2, 17), (2, 18), (2, 19), (1, 0), (0, 0), (0, 0), (3, 0), (3, 0), (3, 0), (3, 0)]), (2, 640, []), (2, 300, []), (2, 4, []), (2, 10, []), (1, 80, [])]
theorem sg_38_len : sg_38.length = 21 := rfl
def sg_39 : List Sh := [(0, 6, [(2, 1), (3, 0), (3, 0), (3, 0), (0, 0), (0, 0), (0, 0)]), (0, 3, [(0, 0), (0, 0), (0, 0), (0, 0), (2, 2), (2, 3), (2, 4), (2, 5), (2, 6), (2, 7), (2, 8), (2, 9), (2, 10), (2, 11), (2, 12), (2, 13), (2, 14)]), (1, 10, []), (1, 12, []), (1, 12, []), (1, 80, []), (1, 12, []), (1, 1080, []), (1, 90, []), (1, 90, []), (1, 90, []), (1, 90, []), (1, 90, []), (1, 90, []), (1, 90, []), (0, 0, [(3, 0), (3, 0), (2, 16), (2, 17), (2, 18), (2, 19), (1, 0), (0, 0), (0, 0), (2, 20), (3, 0), (3, 0), (3, 0)]), (2, 640, []), (2, 300, []), (2, 4, []), (2, 10, []), (1, 80, [])]
theorem sg_39_len : sg_39.length = 21 := rfl
def sg_40 : List Sh := [(0, 6, [(2, 1), (3, 0), (3, 0), (3, 0), (0, 0), (0, 0), (0, 0)]), (0, 3, [(0, 0), (0, 0), (0, 0), (0, 0), (2, 2), (2, 3), (2, 4), (2, 5), (2, 6), (2, 7), (2, 8), (2, 9), (2, 10), (2, 11), (2, 12), (2, 13), (2, 14)]), (1, 10, []), (1, 12, []), (1, 12, []), (1, 80, []), (1, 12, []), (1, 1080, []), (1, 90, []), (1, 90, []), (1, 90, []), (1, 90, []), (1, 90, []), (1, 90, []), (1, 90, []), (0, 0, [(3, 0), (3, 0), (2, 16), (2, 17), (2, 18), (2, 19), (1, 0), (0, 0), (0, 0), (2, 20), (3, 0), (3, 0), (3, 0)]), (2, 640, []), (2, 300, []), (2, 4, []), (2, 10, []), (1, 80, []), (1, 80, [])]
theorem sg_40_len : sg_40.length = 22 := rfl
def sg_41 : List Sh := [(0, 6, [(2, 1), (3, 0), (3, 0), (3, 0), (0, 0), (0, 0), (0, 0)]), (0, 3, [(0, 0), (0, 0), (0, 0), (0, 0), (2, 2), (2, 3), (2, 4), (2, 5), (2, 6), (2, 7), (2, 8), (2, 9), (2, 10), (2, 11), (2, 12), (2, 13), (2, 14)]), (1, 10, []), (1, 12, []), (1, 12, []), (1, 80, []), (1, 12, []), (1, 1080, []), (1, 90, []), (1, 90, []), (1, 90, []), (1, 90, []), (1, 90, []), (1, 90, []), (1, 90, []), (0, 0, [(3, 0), (3, 0), (2, 16), (2, 17), (2, 18), (2, 19), (1, 0), (0, 0), (0, 0), (2, 20), (2, 21), (3, 0), (3, 0)]), (2, 640, []), (2, 300, []), (2, 4, []), (2, 10, []), (1, 80, []), (1, 80, [])]
theorem sg_41_len : sg_41.length = 22 := rfl
def sg_42 : List Sh := [(0, 6, [(2, 1), (3, 0), (3, 0), (3, 0), (0, 0), (0, 0), (0, 0)]), (0, 3, [(0, 0), (0, 0), (0, 0), (0, 0), (2, 2), (2, 3), (2, 4), (2, 5), (2, 6), (2, 7), (2, 8), (2, 9), (2, 10), (2, 11), (2, 12), (2, 13), (2, 14)]), (1, 10, []), (1, 12, []), (1, 12, []), (1, 80, []), (1, 12, []), (1, 1080, []), (1, 90, []), (1, 90, []), (1, 90, []), (1, 90, []), (1, 90, []), (1, 90, []), (1, 90, []), (0, 0, [(3, 0), (3, 0), (2, 16), (2, 17), (2, 18), (2, 19), (1, 0), (0, 0), (0, 0), (2, 20), (2, 21), (3, 0), (3, 0)]), (2, 640, []), (2, 300, []), (2, 4, []), (2, 10, []), (1, 80, []), (1, 80, []), (3, 80, [])]
theorem sg_42_len : sg_42.length = 23 := rfl
def sg_43 : List Sh := [(0, 6, [(2, 1), (3, 0), (3, 0), (3, 0), (0, 0), (0, 0), (0, 0)]), (0, 3, [(0, 0), (0, 0), (0, 0), (0, 0), (2, 2), (2, 3), (2, 4), (2, 5), (2, 6), (2, 7), (2, 8), (2, 9), (2, 10), (2, 11), (2, 12), (2, 13), (2, 14)]), (1, 10, []), (1, 12, []), (1, 12, []), (1, 80, []), (1, 12, []), (1, 1080, []), (1, 90, []), (1, 90, []), (1, 90, []), (1, 90, []), (1, 90, []), (1, 90, []), (1, 90, []), (0, 0, [(3, 0), (3, 0), (2, 16), (2, 17), (2, 18), (2, 19), (1, 0), (0, 0), (0, 0), (2, 20), (2, 21), (2, 22), (3, 0)]), (2, 640, []), (2, 300, []), (2, 4, []), (2, 10, []), (1, 80, []), (1, 80, []), (3, 80, [])]
theorem sg_43_len : sg_43.length = 23 := rfl
def sg_44 : List Sh := [(0, 6, [(2, 1), (3, 0), (3, 0), (3, 0), (0, 0), (0, 0), (0, 0)]), (0, 3, [(0, 0), (0, 0), (0, 0), (0, 0), (2, 2), (2, 3), (2, 4), (2, 5), (2, 6), (2, 7), (2, 8), (2, 9), (2, 10), (2, 11), (2, 12), (2, 13), (2, 14)]), (1, 10, []), (1, 12, []), (1, 12, []), (1, 80, []), (1, 12, []), (1, 1080, []), (1, 90, []), (1, 90, []), (1, 90, []), (1, 90, []), (1, 90, []), (1, 90, []), (1, 90, []), (0, 0, [(3, 0), (3, 0), (2, 16), (2, 17), (2, 18), (2, 19), (1, 0), (0, 0), (0, 0), (2, 20), (2, 21), (2, 22), (3, 0)]), (2, 640, []), (2, 300, []), (2, 4, []), (2, 10, []), (1, 80, []), (1, 80, []), (3, 80, []), (2, 2, [])]
theorem sg_44_len : sg_44.length = 24 := rfl
def sg_45 : List Sh := [(0, 6, [(2, 1), (3, 0), (3, 0), (3, 0), (0, 0), (0, 0), (0, 0)]), (0, 3, [(0, 0), (0, 0), (0, 0), (0, 0), (2, 2), (2, 3), (2, 4), (2, 5), (2, 6), (2, 7), (2, 8), (2, 9), (2, 10), (2, 11), (2, 12), (2, 13), (2, 14)]), (1, 10, []), (1, 12, []), (1, 12, []), (1, 80, []), (1, 12, []), (1, 1080, []), (1, 90, []), (1, 90, []), (1, 90, []), (1, 90, []), (1, 90, []), (1, 90, []), (1, 90, []), (0, 0, [(3, 0), (3, 0), (2, 16), (2, 17), (2, 18), (2, 19), (1, 0), (0, 0), (0, 0), (2, 20), (2, 21), (2, 22), (2, 23)]), (2, 640, []), (2, 300, []), (2, 4, []), (2, 10, []), (1, 80, []), (1, 80, []), (3, 80, []), (2, 2, [])]
theorem sg_45_len : sg_45.length = 24 := rfl
def sg_46 : List Sh := [(0, 6, [(2, 1), (3, 0), (3, 0), (3, 0), (0, 0), (0, 0), (0, 0)]), (0, 3, [(0, 0), (0, 0), (0, 0), (0, 0), (2, 2), (2, 3), (2, 4), (2, 5), (2, 6), (2, 7), (2, 8), (2, 9), (2, 10), (2, 11), (2, 12), (2, 13), (2, 14)]), (1, 10, []), (1, 12, []), (1, 12, []), (1, 80, []), (1, 12, []), (1, 1080, []), (1, 90, []), (1, 90, []), (1, 90, []), (1, 90, []), (1, 90, []), (1, 90, []), (1, 90, []), (0, 0, [(2, 1), (3, 0), (2, 16), (2, 17), (2, 18), (2, 19), (1, 0), (0, 0), (0, 0), (2, 20), (2, 21), (2, 22), (2, 23)]), (2, 640, []), (2, 300, []), (2, 4, []), (2, 10, []), (1, 80, []), (1, 80, []), (3, 80, []), (2, 2, [])]
theorem sg_46_len : sg_46.length = 24 := rfl
def sg_47 : List Sh := [(0, 6, [(2, 1), (3, 0), (3, 0), (3, 0), (0, 0), (0, 0), (0, 0)]), (0, 3, [(0, 0), (0, 0), (0, 0), (0, 0), (2, 2), (2, 3), (2, 4), (2, 5), (2, 6), (2, 7), (2, 8), (2, 9), (2, 10), (2, 11), (2, 12), (2, 13), (2, 14)]), (1, 10, []), (1, 12, []), (1, 12, []), (1, 80, []), (1, 12, []), (1, 1080, []), (1, 90, []), (1, 90, []), (1, 90, []), (1, 90, []), (1, 90, []), (1, 90, []), (1, 90, []), (0, 0, [(2, 1), (3, 0), (2, 16), (2, 17), (2, 18), (2, 19), (1, 0), (0, 0), (0, 0), (2, 20), (2, 21), (2, 22), (2, 23)]), (2, 640, []), (2, 300, []), (2, 4, []), (2, 10, []), (1, 80, []), (1, 80, []), (3, 80, []), (2, 2, []), (0, 5, [(0, 0), (0, 0), (0, 0), (0, 0), (0, 0), (3, 0), (3, 0), (3, 0), (3, 0)])]
theorem sg_47_len : sg_47.length = 25 := rfl
def sg_48 : List Sh := [(0, 6, [(2, 1), (3, 0), (3, 0), (3, 0), (0, 0), (0, 0), (0, 0)]), (0, 3, [(0, 0), (0, 0), (0, 0), (0, 0), (2, 2), (2, 3), (2, 4), (2, 5), (2, 6), (2, 7), (2, 8), (2, 9), (2, 10), (2, 11), (2, 12), (2, 13), (2, 14)]), (1, 10, []), (1, 12, []), (1, 12, []), (1, 80, []), (1, 12, []), (1, 1080, []), (1, 90, []), (1, 90, []), (1, 90, []), (1, 90, []), (1, 90, []), (1, 90, []), (1, 90, []), (0, 0, [(2, 1), (3, 0), (2, 16), (2, 17), (2, 18), (2, 19), (1, 0), (0, 0), (0, 0), (2, 20), (2, 21), (2, 22), (2, 23)]), (2, 640, []), (2, 300, []), (2, 4, []), (2, 10, []), (1, 80, []), (1, 80, []), (3, 80, []), (2, 2, []), (0, 5, [(0, 0), (0, 0), (0, 0), (0, 0), (0, 0), (3, 0), (3, 0), (3, 0), (3, 0)]), (1, 80, [])]
theorem sg_48_len : sg_48.length = 26 := rfl
def sg_49 : List Sh := [(0, 6, [(2, 1), (3, 0), (3, 0), (3, 0), (0, 0), (0, 0), (0, 0)]), (0, 3, [(0, 0), (0, 0), (0, 0), (0, 0), (2, 2), (2, 3), (2, 4), (2, 5), (2, 6), (2, 7), (2, 8), (2, 9), (2, 10), (2, 11), (2, 12), (2, 13), (2, 14)]), (1, 10, []), (1, 12, []), (1, 12, []), (1, 80, []), (1, 12, []), (1, 1080, []), (1, 90, []), (1, 90, []), (1, 90, []), (1, 90, []), (1, 90, []), (1, 90, []), (1, 90, []), (0, 0, [(2, 1), (3, 0), (2, 16), (2, 17), (2, 18), (2, 19), (1, 0), (0, 0), (0, 0), (2, 20), (2, 21), (2, 22), (2, 23)]), (2, 640, []), (2, 300, []), (2, 4, []), (2, 10, []), (1, 80, []), (1, 80, []), (3, 80, []), (2, 2, []), (0, 5, [(0, 0), (0, 0), (0, 0), (0, 0), (0, 0), (2, 25), (3, 0), (3, 0), (3, 0)]), (1, 80, [])]
theorem sg_49_len : sg_49.length = 26 := rfl
def sg_50 : List Sh := [(0, 6, [(2, 1), (3, 0), (3, 0), (3, 0), (0, 0), (0, 0), (0, 0)]), (0, 3, [(0, 0), (0, 0), (0, 0), (0, 0), (2, 2), (2, 3), (2, 4), (2, 5), (2, 6), (2, 7), (2, 8), (2, 9), (2, 10), (2, 11), (2, 12), (2, 13), (2, 14)]), (1, 10, []), (1, 12, []), (1, 12, []), (1, 80, []), (1, 12, []), (1, 1080, []), (1, 90, []), (1, 90, []), (1, 90, []), (1, 90, []), (1, 90, []), (1, 90, []), (1, 90, []), (0, 0, [(2, 1), (3, 0), (2, 16), (2, 17), (2, 18), (2, 19), (1, 0), (0, 0), (0, 0), (2, 20), (2, 21), (2, 22), (2, 23)]), (2, 640, []), (2, 300, []), (2, 4, []), (2, 10, []), (1, 80, []), (1, 80, []), (3, 80, []), (2, 2, []), (0, 5, [(0, 0), (0, 0), (0, 0), (0, 0), (0, 0), (2, 25), (3, 0), (3, 0), (3, 0)]), (1, 80, []), (1, 80, [])]
theorem sg_50_len : sg_50.length = 27 := rfl
def sg_51 : List Sh := [(0, 6, [(2, 1), (3, 0), (3, 0), (3, 0), (0, 0), (0, 0), (0, 0)]), (0, 3, [(0, 0), (0, 0), (0, 0), (0, 0), (2, 2), (2, 3), (2, 4), (2, 5), (2, 6), (2, 7), (2, 8), (2, 9), (2, 10), (2, 11), (2, 12), (2, 13), (2, 14)]), (1, 10, []), (1, 12, []), (1, 12, []), (1, 80, []), (1, 12, []), (1, 1080, []), (1, 90, []), (1, 90, []), (1, 90, []), (1, 90, []), (1, 90, []), (1, 90, []), (1, 90, []), (0, 0, [(2, 1), (3, 0), (2, 16), (2, 17), (2, 18), (2, 19), (1, 0), (0, 0), (0, 0), (2, 20), (2, 21), (2, 22), (2, 23)]), (2, 640, []), (2, 300, []), (2, 4, []), (2, 10, []), (1, 80, []), (1, 80, []), (3, 80, []), (2, 2, []), (0, 5, [(0, 0), (0, 0), (0, 0), (0, 0), (0, 0), (2, 25), (2, 26), (3, 0), (3, 0)]), (1, 80, []), (1, 80, [])]
theorem sg_51_len : sg_51.length = 27 := rfl
def sg_52 : List Sh := [(0, 6, [(2, 1), (3, 0), (3, 0), (3, 0), (0, 0), (0, 0), (0, 0)]), (0, 3, [(0, 0), (0, 0), (0, 0), (0, 0), (2, 2), (2, 3), (2, 4), (2, 5), (2, 6), (2, 7), (2, 8), (2, 9), (2, 10), (2, 11), (2, 12), (2, 13), (2, 14)]), (1, 10, []), (1, 12, []), (1, 12, []), (1, 80, []), (1, 12, []), (1, 1080, []), (1, 90, []), (1, 90, []), (1, 90, []), (1, 90, []), (1, 90, []), (1, 90, []), (1, 90, []), (0, 0, [(2, 1), (3, 0), (2, 16), (2, 17), (2, 18), (2, 19), (1, 0), (0, 0), (0, 0), (2, 20), (2, 21), (2, 22), (2, 23)]), (2, 640, []), (2, 300, []), (2, 4, []), (2, 10, []), (1, 80, []), (1, 80, []), (3, 80, []), (2, 2, []), (0, 5, [(0, 0), (0, 0), (0, 0), (0, 0), (0, 0), (2, 25), (2, 26), (3, 0), (3, 0)]), (1, 80, []), (1, 80, []), (1, 60, [])]
theorem sg_52_len : sg_52.length = 28 := rfl
def sg_53 : List Sh := [(0, 6, [(2, 1), (3, 0), (3, 0), (3, 0), (0, 0), (0, 0), (0, 0)]), (0, 3, [(0, 0), (0, 0), (0, 0), (0, 0), (2, 2), (2, 3), (2, 4), (2, 5), (2, 6), (2, 7), (2, 8), (2, 9), (2, 10), (2, 11), (2, 12), (2, 13), (2, 14)]), (1, 10, []), (1, 12, []), (1, 12, []), (1, 80, []), (1, 12, []), (1, 1080, []), (1, 90, []), (1, 90, []), (1, 90, []), (1, 90, []), (1, 90, []), (1, 90, []), (1, 90, []), (0, 0, [(2, 1), (3, 0), (2, 16), (2, 17), (2, 18), (2, 19), (1, 0), (0, 0), (0, 0), (2, 20), (2, 21), (2, 22), (2, 23)]), (2, 640, []), (2, 300, []), (2, 4, []), (2, 10, []), (1, 80, []), (1, 80, []), (3, 80, []), (2, 2, []), (0, 5, [(0, 0), (0, 0), (0, 0), (0, 0), (0, 0), (2, 25), (2, 26), (2, 27), (3, 0)]), (1, 80, []), (1, 80, []), (1, 60, [])]
theorem sg_53_len : sg_53.length = 28 := rfl
def sg_54 : List Sh := [(0, 6, [(2, 1), (3, 0), (3, 0), (3, 0), (0, 0), (0, 0), (0, 0)]), (0, 3, [(0, 0), (0, 0), (0, 0), (0, 0), (2, 2), (2, 3), (2, 4), (2, 5), (2, 6), (2, 7), (2, 8), (2, 9), (2, 10), (2, 11), (2, 12), (2, 13), (2, 14)]), (1, 10, []), (1, 12, []), (1, 12, []), (1, 80, []), (1, 12, []), (1, 1080, []), (1, 90, []), (1, 90, []), (1, 90, []), (1, 90, []), (1, 90, []), (1, 90, []), (1, 90, []), (0, 0, [(2, 1), (3, 0), (2, 16), (2, 17), (2, 18), (2, 19), (1, 0), (0, 0), (0, 0), (2, 20), (2, 21), (2, 22), (2, 23)]), (2, 640, []), (2, 300, []), (2, 4, []), (2, 10, []), (1, 80, []), (1, 80, []), (3, 80, []), (2, 2, []), (0, 5, [(0, 0), (0, 0), (0, 0), (0, 0), (0, 0), (2, 25), (2, 26), (2, 27), (3, 0)]), (1, 80, []), (1, 80, []), (1, 60, []), (1, 60, [])]
theorem sg_54_len : sg_54.length = 29 := rfl
def sg_55 : List Sh := [(0, 6, [(2, 1), (3, 0), (3, 0), (3, 0), (0, 0), (0, 0), (0, 0)]), (0, 3, [(0, 0), (0, 0), (0, 0), (0, 0), (2, 2), (2, 3), (2, 4), (2, 5), (2, 6), (2, 7), (2, 8), (2, 9), (2, 10), (2, 11), (2, 12), (2, 13), (2, 14)]), (1, 10, []), (1, 12, []), (1, 12, []), (1, 80, []), (1, 12, []), (1, 1080, []), (1, 90, []), (1, 90, []), (1, 90, []), (1, 90, []), (1, 90, []), (1, 90, []), (1, 90, []), (0, 0, [(2, 1), (3, 0), (2, 16), (2, 17), (2, 18), (2, 19), (1, 0), (0, 0), (0, 0), (2, 20), (2, 21), (2, 22), (2, 23)]), (2, 640, []), (2, 300, []), (2, 4, []), (2, 10, []), (1, 80, []), (1, 80, []), (3, 80, []), (2, 2, []), (0, 5, [(0, 0), (0, 0), (0, 0), (0, 0), (0, 0), (2, 25), (2, 26), (2, 27), (2, 28)]), (1, 80, []), (1, 80, []), (1, 60, []), (1, 60, [])]
theorem sg_55_len : sg_55.length = 29 := rfl
def sm_X5_init_24 (σ : Mm) : Mm := (stI (stI (stI (stI (stI σ 24 0 0) 24 1 0) 24 2 0) 24 3 0) 24 4 0)
theorem ci_X5_init_24_z {σ : Mm} (h : Zb σ 25) : Zb (sm_X5_init_24 σ) 29 := by
  unfold sm_X5_init_24
  exact (Zb.stI (Zb.stI (Zb.stI (Zb.stI (Zb.stI (Zb.mono h (by decide)) (by decide)) (by decide)) (by decide)) (by decide)) (by decide))
theorem ci_X5_init_24_r {σ : Mm} (hR : Rg σ) : Rg (sm_X5_init_24 σ) := by
  unfold sm_X5_init_24
  exact (Rg.stI (Rg.stI (Rg.stI (Rg.stI (Rg.stI hR (by decide)) (by decide)) (by decide)) (by decide)) (by decide))
theorem hd_X5_init : yX5_init.cls ≠ "java/lang/invoke/MethodHandle" ∧ yX5_init.cls ≠ "java/lang/invoke/VarHandle" ∧ (parseMethodDescriptor yX5_init.desc).map (fun d => d.parameters.length) = some 0 := by decide +kernel
set_option maxRecDepth 100000 in
set_option maxHeartbeats 4000000 in
theorem ci_X5_init_24 {l : Launch} {D : va_G} {ca : Nat → ClassId} {ad : Nat → Nat} {σ : Mm} {a0 : Nat} (h0 : ad 24 = a0) (hz : Zb σ 25) (hR : Rg σ) : CtN l D vcl ca NI yX5_init (Cond.code yX5_init cX5_init 1 none :: tbG) { frames := 1, cells := 4, slots := 280, locals := 20 } [.ref a0] ad sg_47 σ sg_55 (sm_X5_init_24 σ) 4 280 := by
  refine ct_N (shs := sg_47) (shs' := sg_55) RX5 rfl (by decide) rfl rfl (Nat.le_of_ble_eq_true rfl) (fun p e s m below meth c X hN hr hlk hin => ?_)
  show GN p l e _ s m _ below meth c (MQ below (QcN D vcl ca ad sg_47.length sg_55 (stI (stI (stI (stI (stI σ 24 0 0) 24 1 0) 24 2 0) 24 3 0) 24 4 0) s.heap.size) _ s 4 280 _) 1 D vcl ca _ ad sg_47 σ 0 [(0, .ref a0)] [] 0 0
  refine n_aload_n X dX5_init_0 0 rfl ?_
  refine n_obj X (List.mem_cons_of_mem _ mw_116) (List.mem_cons_of_mem _ mw_18) (List.mem_cons_of_mem _ mw_19) dX5_init_1 (by decide) (Nat.le_of_ble_eq_true rfl) ?_
  refine n_aload_n X dX5_init_4 0 rfl ?_
  refine n_iconst X dX5_init_5 ?_
  refine n_putI (shs := sg_47) (ty := .int) X (iXc5 _) (k := 24) rfl rfl 0 (by decide) tyX5 tyX5_ok nmX5 rfl (List.mem_cons_of_mem _ mw_117) (by decide +kernel) (by decide) (by decide) rfl h0 dX5_init_6 ?_
  replace hz : Zb (stI σ 24 0 0) 25 := Zb.stI hz (by decide)
  replace hR : Rg (stI σ 24 0 0) := Rg.stI hR (by decide)
  refine n_aload_n X dX5_init_9 0 rfl ?_
  refine n_iconst X dX5_init_10 ?_
  refine n_putI (shs := sg_47) (ty := .int) X (iXc5 _) (k := 24) rfl rfl 1 (by decide) tyX5 tyX5_ok nmX5 rfl (List.mem_cons_of_mem _ mw_118) (by decide +kernel) (by decide) (by decide) rfl h0 dX5_init_11 ?_
  replace hz : Zb (stI (stI σ 24 0 0) 24 1 0) 25 := Zb.stI hz (by decide)
  replace hR : Rg (stI (stI σ 24 0 0) 24 1 0) := Rg.stI hR (by decide)
  refine n_aload_n X dX5_init_14 0 rfl ?_
  refine n_iconst X dX5_init_15 ?_
  refine n_putI (shs := sg_47) (ty := .int) X (iXc5 _) (k := 24) rfl rfl 2 (by decide) tyX5 tyX5_ok nmX5 rfl (List.mem_cons_of_mem _ mw_120) (by decide +kernel) (by decide) (by decide) rfl h0 dX5_init_16 ?_
  replace hz : Zb (stI (stI (stI σ 24 0 0) 24 1 0) 24 2 0) 25 := Zb.stI hz (by decide)
  replace hR : Rg (stI (stI (stI σ 24 0 0) 24 1 0) 24 2 0) := Rg.stI hR (by decide)
  refine n_aload_n X dX5_init_19 0 rfl ?_
  refine n_iconst X dX5_init_20 ?_
  refine n_putI (shs := sg_47) (ty := .int) X (iXc5 _) (k := 24) rfl rfl 3 (by decide) tyX5 tyX5_ok nmX5 rfl (List.mem_cons_of_mem _ mw_123) (by decide +kernel) (by decide) (by decide) rfl h0 dX5_init_21 ?_
  replace hz : Zb (stI (stI (stI (stI σ 24 0 0) 24 1 0) 24 2 0) 24 3 0) 25 := Zb.stI hz (by decide)
  replace hR : Rg (stI (stI (stI (stI σ 24 0 0) 24 1 0) 24 2 0) 24 3 0) := Rg.stI hR (by decide)
  refine n_aload_n X dX5_init_24 0 rfl ?_
  refine n_iconst X dX5_init_25 ?_
  refine n_putI (shs := sg_47) (ty := .boolean) X (iXc5 _) (k := 24) rfl rfl 4 (by decide) tyX5 tyX5_ok nmX5 rfl (List.mem_cons_of_mem _ mw_126) (by decide +kernel) (by decide) (by decide) rfl h0 dX5_init_26 ?_
  replace hz : Zb (stI (stI (stI (stI (stI σ 24 0 0) 24 1 0) 24 2 0) 24 3 0) 24 4 0) 25 := Zb.stI hz (by decide)
  replace hR : Rg (stI (stI (stI (stI (stI σ 24 0 0) 24 1 0) 24 2 0) 24 3 0) 24 4 0) := Rg.stI hR (by decide)
  refine n_aload_n X dX5_init_29 0 rfl ?_
  refine n_bipush X dX5_init_30 (by decide) ?_
  refine n_arr (shs := sg_47) (shs' := sg_48) (atype := .int) (tg := 1) (n := 80) (ty := .int) (a0 := (80, .inl (fun _ => 0))) X Aw_new (List.mem_cons_of_mem _ mw_104) rfl (fun _ => rfl) (by decide) (by decide) (by decide) (by decide) (cel_I hz) rfl (by decide) dX5_init_32 (fun ad1 q1 hk1 hq1 => ?_)
  have ht24_1 : ad1 24 = a0 := (hk1 24 (by decide)).trans h0
  have hc1 : ∀ k, k < sg_47.length → ad1 k = ad k := fun k hk => (hk1 k (Nat.lt_of_lt_of_le hk (by decide))).trans ((fun _ _ => rfl) k hk)
  replace hz : Zb (stI (stI (stI (stI (stI σ 24 0 0) 24 1 0) 24 2 0) 24 3 0) 24 4 0) 26 := Zb.mono hz (by decide)
  refine n_putR (shs := sg_48) (shs' := sg_49) (ty := .array .int) (z := 25) X (iXc5 _) (k := 24) rfl rfl 5 (by decide) tyX5 tyX5_ok nmX5 rfl hin rfl (List.mem_cons_of_mem _ mw_128) (by decide +kernel) rfl rfl (by decide) ht24_1 hq1 rfl dX5_init_34 ?_
  refine n_aload_n X dX5_init_37 0 rfl ?_
  refine n_bipush X dX5_init_38 (by decide) ?_
  refine n_arr (shs := sg_49) (shs' := sg_50) (atype := .int) (tg := 1) (n := 80) (ty := .int) (a0 := (80, .inl (fun _ => 0))) X Aw_new (List.mem_cons_of_mem _ mw_104) rfl (fun _ => rfl) (by decide) (by decide) (by decide) (by decide) (cel_I hz) rfl (by decide) dX5_init_40 (fun ad2 q2 hk2 hq2 => ?_)
  have ht24_2 : ad2 24 = a0 := (hk2 24 (by decide)).trans ht24_1
  have ht25_2 : ad2 25 = q1 := (hk2 25 (by decide)).trans hq1
  have hc2 : ∀ k, k < sg_47.length → ad2 k = ad k := fun k hk => (hk2 k (Nat.lt_of_lt_of_le hk (by decide))).trans (hc1 k hk)
  replace hz : Zb (stI (stI (stI (stI (stI σ 24 0 0) 24 1 0) 24 2 0) 24 3 0) 24 4 0) 27 := Zb.mono hz (by decide)
  refine n_putR (shs := sg_50) (shs' := sg_51) (ty := .array .int) (z := 26) X (iXc5 _) (k := 24) rfl rfl 6 (by decide) tyX5 tyX5_ok nmX5 rfl hin rfl (List.mem_cons_of_mem _ mw_131) (by decide +kernel) rfl rfl (by decide) ht24_2 hq2 rfl dX5_init_42 ?_
  refine n_aload_n X dX5_init_45 0 rfl ?_
  refine n_bipush X dX5_init_46 (by decide) ?_
  refine n_arr (shs := sg_51) (shs' := sg_52) (atype := .int) (tg := 1) (n := 60) (ty := .int) (a0 := (60, .inl (fun _ => 0))) X Aw_new (List.mem_cons_of_mem _ mw_104) rfl (fun _ => rfl) (by decide) (by decide) (by decide) (by decide) (cel_I hz) rfl (by decide) dX5_init_48 (fun ad3 q3 hk3 hq3 => ?_)
  have ht24_3 : ad3 24 = a0 := (hk3 24 (by decide)).trans ht24_2
  have ht25_3 : ad3 25 = q1 := (hk3 25 (by decide)).trans ht25_2
  have ht26_3 : ad3 26 = q2 := (hk3 26 (by decide)).trans hq2
  have hc3 : ∀ k, k < sg_47.length → ad3 k = ad k := fun k hk => (hk3 k (Nat.lt_of_lt_of_le hk (by decide))).trans (hc2 k hk)
  replace hz : Zb (stI (stI (stI (stI (stI σ 24 0 0) 24 1 0) 24 2 0) 24 3 0) 24 4 0) 28 := Zb.mono hz (by decide)
  refine n_putR (shs := sg_52) (shs' := sg_53) (ty := .array .int) (z := 27) X (iXc5 _) (k := 24) rfl rfl 7 (by decide) tyX5 tyX5_ok nmX5 rfl hin rfl (List.mem_cons_of_mem _ mw_132) (by decide +kernel) rfl rfl (by decide) ht24_3 hq3 rfl dX5_init_50 ?_
  refine n_aload_n X dX5_init_53 0 rfl ?_
  refine n_bipush X dX5_init_54 (by decide) ?_
  refine n_arr (shs := sg_53) (shs' := sg_54) (atype := .int) (tg := 1) (n := 60) (ty := .int) (a0 := (60, .inl (fun _ => 0))) X Aw_new (List.mem_cons_of_mem _ mw_104) rfl (fun _ => rfl) (by decide) (by decide) (by decide) (by decide) (cel_I hz) rfl (by decide) dX5_init_56 (fun ad4 q4 hk4 hq4 => ?_)
  have ht24_4 : ad4 24 = a0 := (hk4 24 (by decide)).trans ht24_3
  have ht25_4 : ad4 25 = q1 := (hk4 25 (by decide)).trans ht25_3
  have ht26_4 : ad4 26 = q2 := (hk4 26 (by decide)).trans ht26_3
  have ht27_4 : ad4 27 = q3 := (hk4 27 (by decide)).trans hq3
  have hc4 : ∀ k, k < sg_47.length → ad4 k = ad k := fun k hk => (hk4 k (Nat.lt_of_lt_of_le hk (by decide))).trans (hc3 k hk)
  replace hz : Zb (stI (stI (stI (stI (stI σ 24 0 0) 24 1 0) 24 2 0) 24 3 0) 24 4 0) 29 := Zb.mono hz (by decide)
  refine n_putR (shs := sg_54) (shs' := sg_55) (ty := .array .int) (z := 28) X (iXc5 _) (k := 24) rfl rfl 8 (by decide) tyX5 tyX5_ok nmX5 rfl hin rfl (List.mem_cons_of_mem _ mw_135) (by decide +kernel) rfl rfl (by decide) ht24_4 hq4 rfl dX5_init_58 ?_
  exact n_vret X hr hlk hc4 dX5_init_61
def sg_56 : List Sh := [(0, 6, [(2, 1), (3, 0), (3, 0), (3, 0), (0, 0), (0, 0), (0, 0)]), (0, 3, [(0, 0), (0, 0), (0, 0), (0, 0), (2, 2), (2, 3), (2, 4), (2, 5), (2, 6), (2, 7), (2, 8), (2, 9), (2, 10), (2, 11), (2, 12), (2, 13), (2, 14)]), (1, 10, []), (1, 12, []), (1, 12, []), (1, 80, []), (1, 12, []), (1, 1080, []), (1, 90, []), (1, 90, []), (1, 90, []), (1, 90, []), (1, 90, []), (1, 90, []), (1, 90, []), (0, 0, [(2, 1), (2, 24), (2, 16), (2, 17), (2, 18), (2, 19), (1, 0), (0, 0), (0, 0), (2, 20), (2, 21), (2, 22), (2, 23)]), (2, 640, []), (2, 300, []), (2, 4, []), (2, 10, []), (1, 80, []), (1, 80, []), (3, 80, []), (2, 2, []), (0, 5, [(0, 0), (0, 0), (0, 0), (0, 0), (0, 0), (2, 25), (2, 26), (2, 27), (2, 28)]), (1, 80, []), (1, 80, []), (1, 60, []), (1, 60, [])]
theorem sg_56_len : sg_56.length = 29 := rfl
def sm_X0_init_15 (σ : Mm) : Mm := (sm_X5_init_24 (stI (stI (stL σ 15 6 0) 15 7 0) 15 8 0))
theorem ci_X0_init_15_z {σ : Mm} (h : Zb σ 16) : Zb (sm_X0_init_15 σ) 29 := by
  unfold sm_X0_init_15
  exact (Zb.mono (ci_X5_init_24_z (Zb.stI (Zb.stI (Zb.stL (Zb.mono h (by decide)) (by decide)) (by decide)) (by decide))) (by decide))
theorem ci_X0_init_15_r {σ : Mm} (hR : Rg σ) : Rg (sm_X0_init_15 σ) := by
  unfold sm_X0_init_15
  exact (ci_X5_init_24_r (Rg.stI (Rg.stI (Rg.stL hR) (by decide)) (by decide)))
theorem hd_X0_init : yX0_init.cls ≠ "java/lang/invoke/MethodHandle" ∧ yX0_init.cls ≠ "java/lang/invoke/VarHandle" ∧ (parseMethodDescriptor yX0_init.desc).map (fun d => d.parameters.length) = some 1 := by decide +kernel
set_option maxRecDepth 100000 in
set_option maxHeartbeats 4000000 in
theorem ci_X0_init_15 {l : Launch} {D : va_G} {ca : Nat → ClassId} {ad : Nat → Nat} {σ : Mm} {a0 a1 : Nat} (h0 : ad 15 = a0) (h1 : ad 1 = a1) (hz : Zb σ 16) (hR : Rg σ) : CtN l D vcl ca NI yX0_init (Cond.code yX0_init cX0_init 2 none :: tbG) { frames := 2, cells := 13, slots := 1485, locals := 40 } [.ref a0, .ref a1] ad sg_29 σ sg_56 (sm_X0_init_15 σ) 13 1485 := by
  refine ct_N (shs := sg_29) (shs' := sg_56) RX0 rfl (by decide) rfl rfl (Nat.le_of_ble_eq_true rfl) (fun p e s m below meth c X hN hr hlk hin => ?_)
  show GN p l e _ s m _ below meth c (MQ below (QcN D vcl ca ad sg_29.length sg_56 (sm_X5_init_24 (stI (stI (stL σ 15 6 0) 15 7 0) 15 8 0)) s.heap.size) _ s 13 1485 _) 2 D vcl ca _ ad sg_29 σ 0 [(0, .ref a0), (1, .ref a1)] [] 0 0
  refine n_aload_n X dX0_init_0 0 rfl ?_
  refine n_obj X (List.mem_cons_of_mem _ mw_110) (List.mem_cons_of_mem _ mw_18) (List.mem_cons_of_mem _ mw_19) dX0_init_1 (by decide) (Nat.le_of_ble_eq_true rfl) ?_
  refine n_aload_n X dX0_init_4 0 rfl ?_
  refine n_sipush X dX0_init_5 (by decide) ?_
  refine n_arr (shs := sg_29) (shs' := sg_30) (atype := .long) (tg := 2) (n := 640) (ty := .long) (a0 := (640, .inr (.inl (fun _ => 0)))) X Aw_new (List.mem_cons_of_mem _ mw_156) rfl (fun _ => rfl) (by decide) (by decide) (by decide) (by decide) (cel_J hz) rfl (by decide) dX0_init_8 (fun ad1 q1 hk1 hq1 => ?_)
  have ht15_1 : ad1 15 = a0 := (hk1 15 (by decide)).trans h0
  have ht1_1 : ad1 1 = a1 := (hk1 1 (by decide)).trans h1
  have hc1 : ∀ k, k < sg_29.length → ad1 k = ad k := fun k hk => (hk1 k (Nat.lt_of_lt_of_le hk (by decide))).trans ((fun _ _ => rfl) k hk)
  replace hz : Zb σ 17 := Zb.mono hz (by decide)
  refine n_putR (shs := sg_30) (shs' := sg_31) (ty := .array .long) (z := 16) X (iXc0 _) (k := 15) rfl rfl 2 (by decide) tyX0 tyX0_ok nmX0 rfl hin rfl (List.mem_cons_of_mem _ mw_162) (by decide +kernel) rfl rfl (by decide) ht15_1 hq1 rfl dX0_init_10 ?_
  refine n_aload_n X dX0_init_13 0 rfl ?_
  refine n_sipush X dX0_init_14 (by decide) ?_
  refine n_arr (shs := sg_31) (shs' := sg_32) (atype := .long) (tg := 2) (n := 300) (ty := .long) (a0 := (300, .inr (.inl (fun _ => 0)))) X Aw_new (List.mem_cons_of_mem _ mw_156) rfl (fun _ => rfl) (by decide) (by decide) (by decide) (by decide) (cel_J hz) rfl (by decide) dX0_init_17 (fun ad2 q2 hk2 hq2 => ?_)
  have ht15_2 : ad2 15 = a0 := (hk2 15 (by decide)).trans ht15_1
  have ht1_2 : ad2 1 = a1 := (hk2 1 (by decide)).trans ht1_1
  have ht16_2 : ad2 16 = q1 := (hk2 16 (by decide)).trans hq1
  have hc2 : ∀ k, k < sg_29.length → ad2 k = ad k := fun k hk => (hk2 k (Nat.lt_of_lt_of_le hk (by decide))).trans (hc1 k hk)
  replace hz : Zb σ 18 := Zb.mono hz (by decide)
  refine n_putR (shs := sg_32) (shs' := sg_33) (ty := .array .long) (z := 17) X (iXc0 _) (k := 15) rfl rfl 3 (by decide) tyX0 tyX0_ok nmX0 rfl hin rfl (List.mem_cons_of_mem _ mw_163) (by decide +kernel) rfl rfl (by decide) ht15_2 hq2 rfl dX0_init_19 ?_
  refine n_aload_n X dX0_init_22 0 rfl ?_
  refine n_iconst X dX0_init_23 ?_
  refine n_arr (shs := sg_33) (shs' := sg_34) (atype := .long) (tg := 2) (n := 4) (ty := .long) (a0 := (4, .inr (.inl (fun _ => 0)))) X Aw_new (List.mem_cons_of_mem _ mw_156) rfl (fun _ => rfl) (by decide) (by decide) (by decide) (by decide) (cel_J hz) rfl (by decide) dX0_init_24 (fun ad3 q3 hk3 hq3 => ?_)
  have ht15_3 : ad3 15 = a0 := (hk3 15 (by decide)).trans ht15_2
  have ht1_3 : ad3 1 = a1 := (hk3 1 (by decide)).trans ht1_2
  have ht16_3 : ad3 16 = q1 := (hk3 16 (by decide)).trans ht16_2
  have ht17_3 : ad3 17 = q2 := (hk3 17 (by decide)).trans hq2
  have hc3 : ∀ k, k < sg_29.length → ad3 k = ad k := fun k hk => (hk3 k (Nat.lt_of_lt_of_le hk (by decide))).trans (hc2 k hk)
  replace hz : Zb σ 19 := Zb.mono hz (by decide)
  refine n_putR (shs := sg_34) (shs' := sg_35) (ty := .array .long) (z := 18) X (iXc0 _) (k := 15) rfl rfl 4 (by decide) tyX0 tyX0_ok nmX0 rfl hin rfl (List.mem_cons_of_mem _ mw_164) (by decide +kernel) rfl rfl (by decide) ht15_3 hq3 rfl dX0_init_26 ?_
  refine n_aload_n X dX0_init_29 0 rfl ?_
  refine n_bipush X dX0_init_30 (by decide) ?_
  refine n_arr (shs := sg_35) (shs' := sg_36) (atype := .long) (tg := 2) (n := 10) (ty := .long) (a0 := (10, .inr (.inl (fun _ => 0)))) X Aw_new (List.mem_cons_of_mem _ mw_156) rfl (fun _ => rfl) (by decide) (by decide) (by decide) (by decide) (cel_J hz) rfl (by decide) dX0_init_32 (fun ad4 q4 hk4 hq4 => ?_)
  have ht15_4 : ad4 15 = a0 := (hk4 15 (by decide)).trans ht15_3
  have ht1_4 : ad4 1 = a1 := (hk4 1 (by decide)).trans ht1_3
  have ht16_4 : ad4 16 = q1 := (hk4 16 (by decide)).trans ht16_3
  have ht17_4 : ad4 17 = q2 := (hk4 17 (by decide)).trans ht17_3
  have ht18_4 : ad4 18 = q3 := (hk4 18 (by decide)).trans hq3
  have hc4 : ∀ k, k < sg_29.length → ad4 k = ad k := fun k hk => (hk4 k (Nat.lt_of_lt_of_le hk (by decide))).trans (hc3 k hk)
  replace hz : Zb σ 20 := Zb.mono hz (by decide)
  refine n_putR (shs := sg_36) (shs' := sg_37) (ty := .array .long) (z := 19) X (iXc0 _) (k := 15) rfl rfl 5 (by decide) tyX0 tyX0_ok nmX0 rfl hin rfl (List.mem_cons_of_mem _ mw_167) (by decide +kernel) rfl rfl (by decide) ht15_4 hq4 rfl dX0_init_34 ?_
  refine n_aload_n X dX0_init_37 0 rfl ?_
  refine n_lconst X 0 dX0_init_38 rfl ?_
  refine n_putL (shs := sg_37) X (iXc0 _) (k := 15) rfl rfl 6 (by decide) tyX0 tyX0_ok nmX0 rfl (List.mem_cons_of_mem _ mw_168) (by decide +kernel) rfl ht15_4 dX0_init_39 ?_
  replace hz : Zb (stL σ 15 6 0) 20 := Zb.stL hz (by decide)
  replace hR : Rg (stL σ 15 6 0) := Rg.stL hR
  refine n_aload_n X dX0_init_42 0 rfl ?_
  refine n_iconst X dX0_init_43 ?_
  refine n_putI (shs := sg_37) (ty := .boolean) X (iXc0 _) (k := 15) rfl rfl 7 (by decide) tyX0 tyX0_ok nmX0 rfl (List.mem_cons_of_mem _ mw_169) (by decide +kernel) (by decide) (by decide) rfl ht15_4 dX0_init_44 ?_
  replace hz : Zb (stI (stL σ 15 6 0) 15 7 0) 20 := Zb.stI hz (by decide)
  replace hR : Rg (stI (stL σ 15 6 0) 15 7 0) := Rg.stI hR (by decide)
  refine n_aload_n X dX0_init_47 0 rfl ?_
  refine n_iconst X dX0_init_48 ?_
  refine n_putI (shs := sg_37) (ty := .int) X (iXc0 _) (k := 15) rfl rfl 8 (by decide) tyX0 tyX0_ok nmX0 rfl (List.mem_cons_of_mem _ mw_170) (by decide +kernel) (by decide) (by decide) rfl ht15_4 dX0_init_49 ?_
  replace hz : Zb (stI (stI (stL σ 15 6 0) 15 7 0) 15 8 0) 20 := Zb.stI hz (by decide)
  replace hR : Rg (stI (stI (stL σ 15 6 0) 15 7 0) 15 8 0) := Rg.stI hR (by decide)
  refine n_aload_n X dX0_init_52 0 rfl ?_
  refine n_bipush X dX0_init_53 (by decide) ?_
  refine n_arr (shs := sg_37) (shs' := sg_38) (atype := .int) (tg := 1) (n := 80) (ty := .int) (a0 := (80, .inl (fun _ => 0))) X Aw_new (List.mem_cons_of_mem _ mw_104) rfl (fun _ => rfl) (by decide) (by decide) (by decide) (by decide) (cel_I hz) rfl (by decide) dX0_init_55 (fun ad5 q5 hk5 hq5 => ?_)
  have ht15_5 : ad5 15 = a0 := (hk5 15 (by decide)).trans ht15_4
  have ht1_5 : ad5 1 = a1 := (hk5 1 (by decide)).trans ht1_4
  have ht16_5 : ad5 16 = q1 := (hk5 16 (by decide)).trans ht16_4
  have ht17_5 : ad5 17 = q2 := (hk5 17 (by decide)).trans ht17_4
  have ht18_5 : ad5 18 = q3 := (hk5 18 (by decide)).trans ht18_4
  have ht19_5 : ad5 19 = q4 := (hk5 19 (by decide)).trans hq4
  have hc5 : ∀ k, k < sg_29.length → ad5 k = ad k := fun k hk => (hk5 k (Nat.lt_of_lt_of_le hk (by decide))).trans (hc4 k hk)
  replace hz : Zb (stI (stI (stL σ 15 6 0) 15 7 0) 15 8 0) 21 := Zb.mono hz (by decide)
  refine n_putR (shs := sg_38) (shs' := sg_39) (ty := .array .int) (z := 20) X (iXc0 _) (k := 15) rfl rfl 9 (by decide) tyX0 tyX0_ok nmX0 rfl hin rfl (List.mem_cons_of_mem _ mw_172) (by decide +kernel) rfl rfl (by decide) ht15_5 hq5 rfl dX0_init_57 ?_
  refine n_aload_n X dX0_init_60 0 rfl ?_
  refine n_bipush X dX0_init_61 (by decide) ?_
  refine n_arr (shs := sg_39) (shs' := sg_40) (atype := .int) (tg := 1) (n := 80) (ty := .int) (a0 := (80, .inl (fun _ => 0))) X Aw_new (List.mem_cons_of_mem _ mw_104) rfl (fun _ => rfl) (by decide) (by decide) (by decide) (by decide) (cel_I hz) rfl (by decide) dX0_init_63 (fun ad6 q6 hk6 hq6 => ?_)
  have ht15_6 : ad6 15 = a0 := (hk6 15 (by decide)).trans ht15_5
  have ht1_6 : ad6 1 = a1 := (hk6 1 (by decide)).trans ht1_5
  have ht16_6 : ad6 16 = q1 := (hk6 16 (by decide)).trans ht16_5
  have ht17_6 : ad6 17 = q2 := (hk6 17 (by decide)).trans ht17_5
  have ht18_6 : ad6 18 = q3 := (hk6 18 (by decide)).trans ht18_5
  have ht19_6 : ad6 19 = q4 := (hk6 19 (by decide)).trans ht19_5
  have ht20_6 : ad6 20 = q5 := (hk6 20 (by decide)).trans hq5
  have hc6 : ∀ k, k < sg_29.length → ad6 k = ad k := fun k hk => (hk6 k (Nat.lt_of_lt_of_le hk (by decide))).trans (hc5 k hk)
  replace hz : Zb (stI (stI (stL σ 15 6 0) 15 7 0) 15 8 0) 22 := Zb.mono hz (by decide)
  refine n_putR (shs := sg_40) (shs' := sg_41) (ty := .array .int) (z := 21) X (iXc0 _) (k := 15) rfl rfl 10 (by decide) tyX0 tyX0_ok nmX0 rfl hin rfl (List.mem_cons_of_mem _ mw_174) (by decide +kernel) rfl rfl (by decide) ht15_6 hq6 rfl dX0_init_65 ?_
  refine n_aload_n X dX0_init_68 0 rfl ?_
  refine n_bipush X dX0_init_69 (by decide) ?_
  refine n_arr (shs := sg_41) (shs' := sg_42) (atype := .boolean) (tg := 3) (n := 80) (ty := .boolean) (a0 := (80, .inl (fun _ => 0))) X Aw_new (List.mem_cons_of_mem _ mw_157) rfl (fun _ => rfl) (by decide) (by decide) (by decide) (by decide) (cel_Z hz) rfl (by decide) dX0_init_71 (fun ad7 q7 hk7 hq7 => ?_)
  have ht15_7 : ad7 15 = a0 := (hk7 15 (by decide)).trans ht15_6
  have ht1_7 : ad7 1 = a1 := (hk7 1 (by decide)).trans ht1_6
  have ht16_7 : ad7 16 = q1 := (hk7 16 (by decide)).trans ht16_6
  have ht17_7 : ad7 17 = q2 := (hk7 17 (by decide)).trans ht17_6
  have ht18_7 : ad7 18 = q3 := (hk7 18 (by decide)).trans ht18_6
  have ht19_7 : ad7 19 = q4 := (hk7 19 (by decide)).trans ht19_6
  have ht20_7 : ad7 20 = q5 := (hk7 20 (by decide)).trans ht20_6
  have ht21_7 : ad7 21 = q6 := (hk7 21 (by decide)).trans hq6
  have hc7 : ∀ k, k < sg_29.length → ad7 k = ad k := fun k hk => (hk7 k (Nat.lt_of_lt_of_le hk (by decide))).trans (hc6 k hk)
  replace hz : Zb (stI (stI (stL σ 15 6 0) 15 7 0) 15 8 0) 23 := Zb.mono hz (by decide)
  refine n_putR (shs := sg_42) (shs' := sg_43) (ty := .array .boolean) (z := 22) X (iXc0 _) (k := 15) rfl rfl 11 (by decide) tyX0 tyX0_ok nmX0 rfl hin rfl (List.mem_cons_of_mem _ mw_175) (by decide +kernel) rfl rfl (by decide) ht15_7 hq7 rfl dX0_init_73 ?_
  refine n_aload_n X dX0_init_76 0 rfl ?_
  refine n_iconst X dX0_init_77 ?_
  refine n_arr (shs := sg_43) (shs' := sg_44) (atype := .long) (tg := 2) (n := 2) (ty := .long) (a0 := (2, .inr (.inl (fun _ => 0)))) X Aw_new (List.mem_cons_of_mem _ mw_156) rfl (fun _ => rfl) (by decide) (by decide) (by decide) (by decide) (cel_J hz) rfl (by decide) dX0_init_78 (fun ad8 q8 hk8 hq8 => ?_)
  have ht15_8 : ad8 15 = a0 := (hk8 15 (by decide)).trans ht15_7
  have ht1_8 : ad8 1 = a1 := (hk8 1 (by decide)).trans ht1_7
  have ht16_8 : ad8 16 = q1 := (hk8 16 (by decide)).trans ht16_7
  have ht17_8 : ad8 17 = q2 := (hk8 17 (by decide)).trans ht17_7
  have ht18_8 : ad8 18 = q3 := (hk8 18 (by decide)).trans ht18_7
  have ht19_8 : ad8 19 = q4 := (hk8 19 (by decide)).trans ht19_7
  have ht20_8 : ad8 20 = q5 := (hk8 20 (by decide)).trans ht20_7
  have ht21_8 : ad8 21 = q6 := (hk8 21 (by decide)).trans ht21_7
  have ht22_8 : ad8 22 = q7 := (hk8 22 (by decide)).trans hq7
  have hc8 : ∀ k, k < sg_29.length → ad8 k = ad k := fun k hk => (hk8 k (Nat.lt_of_lt_of_le hk (by decide))).trans (hc7 k hk)
  replace hz : Zb (stI (stI (stL σ 15 6 0) 15 7 0) 15 8 0) 24 := Zb.mono hz (by decide)
  refine n_putR (shs := sg_44) (shs' := sg_45) (ty := .array .long) (z := 23) X (iXc0 _) (k := 15) rfl rfl 12 (by decide) tyX0 tyX0_ok nmX0 rfl hin rfl (List.mem_cons_of_mem _ mw_177) (by decide +kernel) rfl rfl (by decide) ht15_8 hq8 rfl dX0_init_80 ?_
  refine n_aload_n X dX0_init_83 0 rfl ?_
  refine n_aload_n X dX0_init_84 1 rfl ?_
  refine n_putR (shs := sg_45) (shs' := sg_46) (ty := .object "SiteObjects$Program") (z := 1) X (iXc0 _) (k := 15) rfl rfl 0 (by decide) tyX0 tyX0_ok nmX0 rfl hin rfl (List.mem_cons_of_mem _ mw_158) (by decide +kernel) rfl rfl (by decide) ht15_8 ht1_8 rfl dX0_init_85 ?_
  refine n_aload_n X dX0_init_88 0 rfl ?_
  refine n_new (shs := sg_46) (shs' := sg_47) (fl := fn_X5) (ci := 5) X Aw_new (iXc5 _) tyX5 tyX5_ok (List.mem_cons_of_mem _ mw_111) (List.mem_cons_of_mem _ mw_112) (List.mem_cons_of_mem _ mw_5) rfl (fun _ => new_fs hz rfl fn_X5_ok) (by decide) (by decide) rfl (by decide) (by decide) dX0_init_89 (fun ad9 q9 hk9 hq9 => ?_)
  have ht15_9 : ad9 15 = a0 := (hk9 15 (by decide)).trans ht15_8
  have ht1_9 : ad9 1 = a1 := (hk9 1 (by decide)).trans ht1_8
  have ht16_9 : ad9 16 = q1 := (hk9 16 (by decide)).trans ht16_8
  have ht17_9 : ad9 17 = q2 := (hk9 17 (by decide)).trans ht17_8
  have ht18_9 : ad9 18 = q3 := (hk9 18 (by decide)).trans ht18_8
  have ht19_9 : ad9 19 = q4 := (hk9 19 (by decide)).trans ht19_8
  have ht20_9 : ad9 20 = q5 := (hk9 20 (by decide)).trans ht20_8
  have ht21_9 : ad9 21 = q6 := (hk9 21 (by decide)).trans ht21_8
  have ht22_9 : ad9 22 = q7 := (hk9 22 (by decide)).trans ht22_8
  have ht23_9 : ad9 23 = q8 := (hk9 23 (by decide)).trans hq8
  have hc9 : ∀ k, k < sg_29.length → ad9 k = ad k := fun k hk => (hk9 k (Nat.lt_of_lt_of_le hk (by decide))).trans (hc8 k hk)
  replace hz : Zb (stI (stI (stL σ 15 6 0) 15 7 0) 15 8 0) 25 := Zb.mono hz (by decide)
  refine n_dup X dX0_init_92 rfl ?_
  refine n_callN (shs := sg_47) (shs' := sg_55) X NIok hN Aw_new (ci_X5_init_24 hq9 hz hR) (rnN_IN X ⟨va_cnB 0 X.2.2.2.2.1 (tbG_good _ (tbG_cons mw_115)) rfl rfl rfl hN.2.1 (X.2.2.2.2.1 _ (List.mem_cons_of_mem _ mw_5)) hd_X5_init ⟨by decide, by decide⟩, rfl, X.2.2.2.2.1 _ (List.mem_cons_of_mem _ mw_114)⟩ rfl rfl (Nat.le_of_ble_eq_true rfl) dX0_init_93 ⟨by decide, by decide⟩) (fun ad10 hk10 => ?_)
  have ht15_10 : ad10 15 = a0 := (hk10 15 (by decide)).trans ht15_9
  have ht1_10 : ad10 1 = a1 := (hk10 1 (by decide)).trans ht1_9
  have ht16_10 : ad10 16 = q1 := (hk10 16 (by decide)).trans ht16_9
  have ht17_10 : ad10 17 = q2 := (hk10 17 (by decide)).trans ht17_9
  have ht18_10 : ad10 18 = q3 := (hk10 18 (by decide)).trans ht18_9
  have ht19_10 : ad10 19 = q4 := (hk10 19 (by decide)).trans ht19_9
  have ht20_10 : ad10 20 = q5 := (hk10 20 (by decide)).trans ht20_9
  have ht21_10 : ad10 21 = q6 := (hk10 21 (by decide)).trans ht21_9
  have ht22_10 : ad10 22 = q7 := (hk10 22 (by decide)).trans ht22_9
  have ht23_10 : ad10 23 = q8 := (hk10 23 (by decide)).trans ht23_9
  have ht24_10 : ad10 24 = q9 := (hk10 24 (by decide)).trans hq9
  have hc10 : ∀ k, k < sg_29.length → ad10 k = ad k := fun k hk => (hk10 k (Nat.lt_of_lt_of_le hk (by decide))).trans (hc9 k hk)
  replace hz : Zb (sm_X5_init_24 (stI (stI (stL σ 15 6 0) 15 7 0) 15 8 0)) 29 := ci_X5_init_24_z hz
  replace hR : Rg (sm_X5_init_24 (stI (stI (stL σ 15 6 0) 15 7 0) 15 8 0)) := ci_X5_init_24_r hR
  refine n_putR (shs := sg_55) (shs' := sg_56) (ty := .object "SiteObjects$Sites") (z := 24) X (iXc0 _) (k := 15) rfl rfl 1 (by decide) tyX0 tyX0_ok nmX0 rfl hin rfl (List.mem_cons_of_mem _ mw_159) (by decide +kernel) rfl rfl (by decide) ht15_10 ht24_10 rfl dX0_init_96 ?_
  exact n_vret X hr hlk hc10 dX0_init_99
def sg_57 : List Sh := [(0, 6, [(2, 1), (2, 15), (3, 0), (3, 0), (0, 0), (0, 0), (0, 0)]), (0, 3, [(0, 0), (0, 0), (0, 0), (0, 0), (2, 2), (2, 3), (2, 4), (2, 5), (2, 6), (2, 7), (2, 8), (2, 9), (2, 10), (2, 11), (2, 12), (2, 13), (2, 14)]), (1, 10, []), (1, 12, []), (1, 12, []), (1, 80, []), (1, 12, []), (1, 1080, []), (1, 90, []), (1, 90, []), (1, 90, []), (1, 90, []), (1, 90, []), (1, 90, []), (1, 90, []), (0, 0, [(2, 1), (2, 24), (2, 16), (2, 17), (2, 18), (2, 19), (1, 0), (0, 0), (0, 0), (2, 20), (2, 21), (2, 22), (2, 23)]), (2, 640, []), (2, 300, []), (2, 4, []), (2, 10, []), (1, 80, []), (1, 80, []), (3, 80, []), (2, 2, []), (0, 5, [(0, 0), (0, 0), (0, 0), (0, 0), (0, 0), (2, 25), (2, 26), (2, 27), (2, 28)]), (1, 80, []), (1, 80, []), (1, 60, []), (1, 60, [])]
theorem sg_57_len : sg_57.length = 29 := rfl
def sg_58 : List Sh := [(0, 6, [(2, 1), (2, 15), (3, 0), (3, 0), (0, 0), (0, 0), (0, 0)]), (0, 3, [(0, 0), (0, 0), (0, 0), (0, 0), (2, 2), (2, 3), (2, 4), (2, 5), (2, 6), (2, 7), (2, 8), (2, 9), (2, 10), (2, 11), (2, 12), (2, 13), (2, 14)]), (1, 10, []), (1, 12, []), (1, 12, []), (1, 80, []), (1, 12, []), (1, 1080, []), (1, 90, []), (1, 90, []), (1, 90, []), (1, 90, []), (1, 90, []), (1, 90, []), (1, 90, []), (0, 0, [(2, 1), (2, 24), (2, 16), (2, 17), (2, 18), (2, 19), (1, 0), (0, 0), (0, 0), (2, 20), (2, 21), (2, 22), (2, 23)]), (2, 640, []), (2, 300, []), (2, 4, []), (2, 10, []), (1, 80, []), (1, 80, []), (3, 80, []), (2, 2, []), (0, 5, [(0, 0), (0, 0), (0, 0), (0, 0), (0, 0), (2, 25), (2, 26), (2, 27), (2, 28)]), (1, 80, []), (1, 80, []), (1, 60, []), (1, 60, []), (0, 0, [(3, 0), (3, 0), (3, 0), (3, 0), (3, 0), (3, 0), (1, 0), (0, 0), (0, 0), (3, 0), (3, 0), (3, 0), (3, 0)])]
theorem sg_58_len : sg_58.length = 30 := rfl
def sg_59 : List Sh := [(0, 6, [(2, 1), (2, 15), (3, 0), (3, 0), (0, 0), (0, 0), (0, 0)]), (0, 3, [(0, 0), (0, 0), (0, 0), (0, 0), (2, 2), (2, 3), (2, 4), (2, 5), (2, 6), (2, 7), (2, 8), (2, 9), (2, 10), (2, 11), (2, 12), (2, 13), (2, 14)]), (1, 10, []), (1, 12, []), (1, 12, []), (1, 80, []), (1, 12, []), (1, 1080, []), (1, 90, []), (1, 90, []), (1, 90, []), (1, 90, []), (1, 90, []), (1, 90, []), (1, 90, []), (0, 0, [(2, 1), (2, 24), (2, 16), (2, 17), (2, 18), (2, 19), (1, 0), (0, 0), (0, 0), (2, 20), (2, 21), (2, 22), (2, 23)]), (2, 640, []), (2, 300, []), (2, 4, []), (2, 10, []), (1, 80, []), (1, 80, []), (3, 80, []), (2, 2, []), (0, 5, [(0, 0), (0, 0), (0, 0), (0, 0), (0, 0), (2, 25), (2, 26), (2, 27), (2, 28)]), (1, 80, []), (1, 80, []), (1, 60, []), (1, 60, []), (0, 0, [(3, 0), (3, 0), (3, 0), (3, 0), (3, 0), (3, 0), (1, 0), (0, 0), (0, 0), (3, 0), (3, 0), (3, 0), (3, 0)]), (2, 640, [])]
theorem sg_59_len : sg_59.length = 31 := rfl
def sg_60 : List Sh := [(0, 6, [(2, 1), (2, 15), (3, 0), (3, 0), (0, 0), (0, 0), (0, 0)]), (0, 3, [(0, 0), (0, 0), (0, 0), (0, 0), (2, 2), (2, 3), (2, 4), (2, 5), (2, 6), (2, 7), (2, 8), (2, 9), (2, 10), (2, 11), (2, 12), (2, 13), (2, 14)]), (1, 10, []), (1, 12, []), (1, 12, []), (1, 80, []), (1, 12, []), (1, 1080, []), (1, 90, []), (1, 90, []), (1, 90, []), (1, 90, []), (1, 90, []), (1, 90, []), (1, 90, []), (0, 0, [(2, 1), (2, 24), (2, 16), (2, 17), (2, 18), (2, 19), (1, 0), (0, 0), (0, 0), (2, 20), (2, 21), (2, 22), (2, 23)]), (2, 640, []), (2, 300, []), (2, 4, []), (2, 10, []), (1, 80, []), (1, 80, []), (3, 80, []), (2, 2, []), (0, 5, [(0, 0), (0, 0), (0, 0), (0, 0), (0, 0), (2, 25), (2, 26), (2, 27), (2, 28)]), (1, 80, []), (1, 80, []), (1, 60, []), (1, 60, []), (0, 0, [(3, 0), (3, 0), (2, 30), (3, 0), (3, 0), (3, 0), (1, 0), (0, 0), (0, 0), (3, 0), (3, 0), (3, 0), (3, 0)]), (2, 640, [])]
theorem sg_60_len : sg_60.length = 31 := rfl
def sg_61 : List Sh := [(0, 6, [(2, 1), (2, 15), (3, 0), (3, 0), (0, 0), (0, 0), (0, 0)]), (0, 3, [(0, 0), (0, 0), (0, 0), (0, 0), (2, 2), (2, 3), (2, 4), (2, 5), (2, 6), (2, 7), (2, 8), (2, 9), (2, 10), (2, 11), (2, 12), (2, 13), (2, 14)]), (1, 10, []), (1, 12, []), (1, 12, []), (1, 80, []), (1, 12, []), (1, 1080, []), (1, 90, []), (1, 90, []), (1, 90, []), (1, 90, []), (1, 90, []), (1, 90, []), (1, 90, []), (0, 0, [(2, 1), (2, 24), (2, 16), (2, 17), (2, 18), (2, 19), (1, 0), (0, 0), (0, 0), (2, 20), (2, 21), (2, 22), (2, 23)]), (2, 640, []), (2, 300, []), (2, 4, []), (2, 10, []), (1, 80, []), (1, 80, []), (3, 80, []), (2, 2, []), (0, 5, [(0, 0), (0, 0), (0, 0), (0, 0), (0, 0), (2, 25), (2, 26), (2, 27), (2, 28)]), (1, 80, []), (1, 80, []), (1, 60, []), (1, 60, []), (0, 0, [(3, 0), (3, 0), (2, 30), (3, 0), (3, 0), (3, 0), (1, 0), (0, 0), (0, 0), (3, 0), (3, 0), (3, 0), (3, 0)]), (2, 640, []), (2, 300, [])]
theorem sg_61_len : sg_61.length = 32 := rfl
def sg_62 : List Sh := [(0, 6, [(2, 1), (2, 15), (3, 0), (3, 0), (0, 0), (0, 0), (0, 0)]), (0, 3, [(0, 0), (0, 0), (0, 0), (0, 0), (2, 2), (2, 3), (2, 4), (2, 5), (2, 6), (2, 7), (2, 8), (2, 9), (2, 10), (2, 11), (2, 12), (2, 13), (2, 14)]), (1, 10, []), (1, 12, []), (1, 12, []), (1, 80, []), (1, 12, []), (1, 1080, []), (1, 90, []), (1, 90, []), (1, 90, []), (1, 90, []), (1, 90, []), (1, 90, []), (1, 90, []), (0, 0, [(2, 1), (2, 24), (2, 16), (2, 17), (2, 18), (2, 19), (1, 0), (0, 0), (0, 0), (2, 20), (2, 21), (2, 22), (2, 23)]), (2, 640, []), (2, 300, []), (2, 4, []), (2, 10, []), (1, 80, []), (1, 80, []), (3, 80, []), (2, 2, []), (0, 5, [(0, 0), (0, 0), (0, 0), (0, 0), (0, 0), (2, 25), (2, 26), (2, 27), (2, 28)]), (1, 80, []), (1, 80, []), (1, 60, []), (1, 60, []), (0, 0, [(3, 0), (3, 0), (2, 30), (2, 31), (3, 0), (3, 0), (1, 0), (0, 0), (0, 0), (3, 0), (3, 0), (3, 0), (3, 0)]), (2, 640, []), (2, 300, [])]
theorem sg_62_len : sg_62.length = 32 := rfl
def sg_63 : List Sh := [(0, 6, [(2, 1), (2, 15), (3, 0), (3, 0), (0, 0), (0, 0), (0, 0)]), (0, 3, [(0, 0), (0, 0), (0, 0), (0, 0), (2, 2), (2, 3), (2, 4), (2, 5), (2, 6), (2, 7), (2, 8), (2, 9), (2, 10), (2, 11), (2, 12), (2, 13), (2, 14)]), (1, 10, []), (1, 12, []), (1, 12, []), (1, 80, []), (1, 12, []), (1, 1080, []), (1, 90, []), (1, 90, []), (1, 90, []), (1, 90, []), (1, 90, []), (1, 90, []), (1, 90, []), (0, 0, [(2, 1), (2, 24), (2, 16), (2, 17), (2, 18), (2, 19), (1, 0), (0, 0), (0, 0), (2, 20), (2, 21), (2, 22), (2, 23)]), (2, 640, []), (2, 300, []), (2, 4, []), (2, 10, []), (1, 80, []), (1, 80, []), (3, 80, []), (2, 2, []), (0, 5, [(0, 0), (0, 0), (0, 0), (0, 0), (0, 0), (2, 25), (2, 26), (2, 27), (2, 28)]), (1, 80, []), (1, 80, []), (1, 60, []), (1, 60, []), (0, 0, [(3, 0), (3, 0), (2, 30), (2, 31), (3, 0), (3, 0), (1, 0), (0, 0), (0, 0), (3, 0), (3, 0), (3, 0), (3, 0)]), (2, 640, []), (2, 300, []), (2, 4, [])]
theorem sg_63_len : sg_63.length = 33 := rfl
def sg_64 : List Sh := [(0, 6, [(2, 1), (2, 15), (3, 0), (3, 0), (0, 0), (0, 0), (0, 0)]), (0, 3, [(0, 0), (0, 0), (0, 0), (0, 0), (2, 2), (2, 3), (2, 4), (2, 5), (2, 6), (2, 7), (2, 8), (2, 9), (2, 10), (2, 11), (2, 12), (2, 13), (2, 14)]), (1, 10, []), (1, 12, []), (1, 12, []), (1, 80, []), (1, 12, []), (1, 1080, []), (1, 90, []), (1, 90, []), (1, 90, []), (1, 90, []), (1, 90, []), (1, 90, []), (1, 90, []), (0, 0, [(2, 1), (2, 24), (2, 16), (2, 17), (2, 18), (2, 19), (1, 0), (0, 0), (0, 0), (2, 20), (2, 21), (2, 22), (2, 23)]), (2, 640, []), (2, 300, []), (2, 4, []), (2, 10, []), (1, 80, []), (1, 80, []), (3, 80, []), (2, 2, []), (0, 5, [(0, 0), (0, 0), (0, 0), (0, 0), (0, 0), (2, 25), (2, 26), (2, 27), (2, 28)]), (1, 80, []), (1, 80, []), (1, 60, []), (1, 60, []), (0, 0, [(3, 0), (3, 0), (2, 30), (2, 31), (2, 32), (3, 0), (1, 0), (0, 0), (0, 0), (3, 0), (3, 0), (3, 0), (3, 0)]), (2, 640, []), (2, 300, []), (2, 4, [])]
theorem sg_64_len : sg_64.length = 33 := rfl
def sg_65 : List Sh := [(0, 6, [(2, 1), (2, 15), (3, 0), (3, 0), (0, 0), (0, 0), (0, 0)]), (0, 3, [(0, 0), (0, 0), (0, 0), (0, 0), (2, 2), (2, 3), (2, 4), (2, 5), (2, 6), (2, 7), (2, 8), (2, 9), (2, 10), (2, 11), (2, 12), (2, 13), (2, 14)]), (1, 10, []), (1, 12, []), (1, 12, []), (1, 80, []), (1, 12, []), (1, 1080, []), (1, 90, []), (1, 90, []), (1, 90, []), (1, 90, []), (1, 90, []), (1, 90, []), (1, 90, []), (0, 0, [(2, 1), (2, 24), (2, 16), (2, 17), (2, 18), (2, 19), (1, 0), (0, 0), (0, 0), (2, 20), (2, 21), (2, 22), (2, 23)]), (2, 640, []), (2, 300, []), (2, 4, []), (2, 10, []), (1, 80, []), (1, 80, []), (3, 80, []), (2, 2, []), (0, 5, [(0, 0), (0, 0), (0, 0), (0, 0), (0, 0), (2, 25), (2, 26), (2, 27), (2, 28)]), (1, 80, []), (1, 80, []), (1, 60, []), (1, 60, []), (0, 0, [(3, 0), (3, 0), (2, 30), (2, 31), (2, 32), (3, 0), (1, 0), (0, 0), (0, 0), (3, 0), (3, 0), (3, 0), (3, 0)]), (2, 640, []), (2, 300, []), (2, 4, []), (2, 10, [])]
theorem sg_65_len : sg_65.length = 34 := rfl
def sg_66 : List Sh := [(0, 6, [(2, 1), (2, 15), (3, 0), (3, 0), (0, 0), (0, 0), (0, 0)]), (0, 3, [(0, 0), (0, 0), (0, 0), (0, 0), (2, 2), (2, 3), (2, 4), (2, 5), (2, 6), (2, 7), (2, 8), (2, 9), (2, 10), (2, 11), (2, 12), (2, 13), (2, 14)]), (1, 10, []), (1, 12, []), (1, 12, []), (1, 80, []), (1, 12, []), (1, 1080, []), (1, 90, []), (1, 90, []), (1, 90, []), (1, 90, []), (1, 90, []), (1, 90, []), (1, 90, []), (0, 0, [(2, 1), (2, 24), (2, 16), (2, 17), (2, 18), (2, 19), (1, 0), (0, 0), (0, 0), (2, 20), (2, 21), (2, 22), (2, 23)]), (2, 640, []), (2, 300, []), (2, 4, []), (2, 10, []), (1, 80, []), (1, 80, []), (3, 80, []), (2, 2, []), (0, 5, [(0, 0), (0, 0), (0, 0), (0, 0), (0, 0), (2, 25), (2, 26), (2, 27), (2, 28)]), (1, 80, []), (1, 80, []), (1, 60, []), (1, 60, []), (0, 0, [(3, 0), (3, 0), (2, 30), (2, 31), (2, 32), (2, 33), (1, 0), (0, 0), (0, 0), (3, 0), (3, 0), (3, 0), (3, 0)]), (2, 640, []), (2, 300, []), (2, 4, []), (2, 10, [])]
theorem sg_66_len : sg_66.length = 34 := rfl
def sg_67 : List Sh := [(0, 6, [(2, 1), (2, 15), (3, 0), (3, 0), (0, 0), (0, 0), (0, 0)]), (0, 3, [(0, 0), (0, 0), (0, 0), (0, 0), (2, 2), (2, 3), (2, 4), (2, 5), (2, 6), (2, 7), (2, 8), (2, 9), (2, 10), (2, 11), (2, 12), (2, 13), (2, 14)]), (1, 10, []), (1, 12, []), (1, 12, []), (1, 80, []), (1, 12, []), (1, 1080, []), (1, 90, []), (1, 90, []), (1, 90, []), (1, 90, []), (1, 90, []), (1, 90, []), (1, 90, []), (0, 0, [(2, 1), (2, 24), (2, 16), (2, 17), (2, 18), (2, 19), (1, 0), (0, 0), (0, 0), (2, 20), (2, 21), (2, 22), (2, 23)]), (2, 640, []), (2, 300, []), (2, 4, []), (2, 10, []), (1, 80, []), (1, 80, []), (3, 80, []), (2, 2, []), (0, 5, [(0, 0), (0, 0), (0, 0), (0, 0), (0, 0), (2, 25), (2, 26), (2, 27), (2, 28)]), (1, 80, []), (1, 80, []), (1, 60, []), (1, 60, []), (0, 0, [(3, 0), (3, 0), (2, 30), (2, 31), (2, 32), (2, 33), (1, 0), (0, 0), (0, 0), (3, 0), (3, 0), (3, 0), (3, 0)]), (2, 640, []), (2, 300, []), (2, 4, []), (2, 10, []), (1, 80, [])]
theorem sg_67_len : sg_67.length = 35 := rfl
def sg_68 : List Sh := [(0, 6, [(2, 1), (2, 15), (3, 0), (3, 0), (0, 0), (0, 0), (0, 0)]), (0, 3, [(0, 0), (0, 0), (0, 0), (0, 0), (2, 2), (2, 3), (2, 4), (2, 5), (2, 6), (2, 7), (2, 8), (2, 9), (2, 10), (2, 11), (2, 12), (2, 13), (2, 14)]), (1, 10, []), (1, 12, []), (1, 12, []), (1, 80, []), (1, 12, []), (1, 1080, []), (1, 90, []), (1, 90, []), (1, 90, []), (1, 90, []), (1, 90, []), (1, 90, []), (1, 90, []), (0, 0, [(2, 1), (2, 24), (2, 16), (2, 17), (2, 18), (2, 19), (1, 0), (0, 0), (0, 0), (2, 20), (2, 21), (2, 22), (2, 23)]), (2, 640, []), (2, 300, []), (2, 4, []), (2, 10, []), (1, 80, []), (1, 80, []), (3, 80, []), (2, 2, []), (0, 5, [(0, 0), (0, 0), (0, 0), (0, 0), (0, 0), (2, 25), (2, 26), (2, 27), (2, 28)]), (1, 80, []), (1, 80, []), (1, 60, []), (1, 60, []), (0, 0, [(3, 0), (3, 0), (2, 30), (2, 31), (2, 32), (2, 33), (1, 0), (0, 0), (0, 0), (2, 34), (3, 0), (3, 0), (3, 0)]), (2, 640, []), (2, 300, []), (2, 4, []), (2, 10, []), (1, 80, [])]
theorem sg_68_len : sg_68.length = 35 := rfl
def sg_69 : List Sh := [(0, 6, [(2, 1), (2, 15), (3, 0), (3, 0), (0, 0), (0, 0), (0, 0)]), (0, 3, [(0, 0), (0, 0), (0, 0), (0, 0), (2, 2), (2, 3), (2, 4), (2, 5), (2, 6), (2, 7), (2, 8), (2, 9), (2, 10), (2, 11), (2, 12), (2, 13), (2, 14)]), (1, 10, []), (1, 12, []), (1, 12, []), (1, 80, []), (1, 12, []), (1, 1080, []), (1, 90, []), (1, 90, []), (1, 90, []), (1, 90, []), (1, 90, []), (1, 90, []), (1, 90, []), (0, 0, [(2, 1), (2, 24), (2, 16), (2, 17), (2, 18), (2, 19), (1, 0), (0, 0), (0, 0), (2, 20), (2, 21), (2, 22), (2, 23)]), (2, 640, []), (2, 300, []), (2, 4, []), (2, 10, []), (1, 80, []), (1, 80, []), (3, 80, []), (2, 2, []), (0, 5, [(0, 0), (0, 0), (0, 0), (0, 0), (0, 0), (2, 25), (2, 26), (2, 27), (2, 28)]), (1, 80, []), (1, 80, []), (1, 60, []), (1, 60, []), (0, 0, [(3, 0), (3, 0), (2, 30), (2, 31), (2, 32), (2, 33), (1, 0), (0, 0), (0, 0), (2, 34), (3, 0), (3, 0), (3, 0)]), (2, 640, []), (2, 300, []), (2, 4, []), (2, 10, []), (1, 80, []), (1, 80, [])]
theorem sg_69_len : sg_69.length = 36 := rfl
def sg_70 : List Sh := [(0, 6, [(2, 1), (2, 15), (3, 0), (3, 0), (0, 0), (0, 0), (0, 0)]), (0, 3, [(0, 0), (0, 0), (0, 0), (0, 0), (2, 2), (2, 3), (2, 4), (2, 5), (2, 6), (2, 7), (2, 8), (2, 9), (2, 10), (2, 11), (2, 12), (2, 13), (2, 14)]), (1, 10, []), (1, 12, []), (1, 12, []), (1, 80, []), (1, 12, []), (1, 1080, []), (1, 90, []), (1, 90, []), (1, 90, []), (1, 90, []), (1, 90, []), (1, 90, []), (1, 90, []), (0, 0, [(2, 1), (2, 24), (2, 16), (2, 17), (2, 18), (2, 19), (1, 0), (0, 0), (0, 0), (2, 20), (2, 21), (2, 22), (2, 23)]), (2, 640, []), (2, 300, []), (2, 4, []), (2, 10, []), (1, 80, []), (1, 80, []), (3, 80, []), (2, 2, []), (0, 5, [(0, 0), (0, 0), (0, 0), (0, 0), (0, 0), (2, 25), (2, 26), (2, 27), (2, 28)]), (1, 80, []), (1, 80, []), (1, 60, []), (1, 60, []), (0, 0, [(3, 0), (3, 0), (2, 30), (2, 31), (2, 32), (2, 33), (1, 0), (0, 0), (0, 0), (2, 34), (2, 35), (3, 0), (3, 0)]), (2, 640, []), (2, 300, []), (2, 4, []), (2, 10, []), (1, 80, []), (1, 80, [])]
theorem sg_70_len : sg_70.length = 36 := rfl
def sg_71 : List Sh := [(0, 6, [(2, 1), (2, 15), (3, 0), (3, 0), (0, 0), (0, 0), (0, 0)]), (0, 3, [(0, 0), (0, 0), (0, 0), (0, 0), (2, 2), (2, 3), (2, 4), (2, 5), (2, 6), (2, 7), (2, 8), (2, 9), (2, 10), (2, 11), (2, 12), (2, 13), (2, 14)]), (1, 10, []), (1, 12, []), (1, 12, []), (1, 80, []), (1, 12, []), (1, 1080, []), (1, 90, []), (1, 90, []), (1, 90, []), (1, 90, []), (1, 90, []), (1, 90, []), (1, 90, []), (0, 0, [(2, 1), (2, 24), (2, 16), (2, 17), (2, 18), (2, 19), (1, 0), (0, 0), (0, 0), (2, 20), (2, 21), (2, 22), (2, 23)]), (2, 640, []), (2, 300, []), (2, 4, []), (2, 10, []), (1, 80, []), (1, 80, []), (3, 80, []), (2, 2, []), (0, 5, [(0, 0), (0, 0), (0, 0), (0, 0), (0, 0), (2, 25), (2, 26), (2, 27), (2, 28)]), (1, 80, []), (1, 80, []), (1, 60, []), (1, 60, []), (0, 0, [(3, 0), (3, 0), (2, 30), (2, 31), (2, 32), (2, 33), (1, 0), (0, 0), (0, 0), (2, 34), (2, 35), (3, 0), (3, 0)]), (2, 640, []), (2, 300, []), (2, 4, []), (2, 10, []), (1, 80, []), (1, 80, []), (3, 80, [])]
theorem sg_71_len : sg_71.length = 37 := rfl
def sg_72 : List Sh := [(0, 6, [(2, 1), (2, 15), (3, 0), (3, 0), (0, 0), (0, 0), (0, 0)]), (0, 3, [(0, 0), (0, 0), (0, 0), (0, 0), (2, 2), (2, 3), (2, 4), (2, 5), (2, 6), (2, 7), (2, 8), (2, 9), (2, 10), (2, 11), (2, 12), (2, 13), (2, 14)]), (1, 10, []), (1, 12, []), (1, 12, []), (1, 80, []), (1, 12, []), (1, 1080, []), (1, 90, []), (1, 90, []), (1, 90, []), (1, 90, []), (1, 90, []), (1, 90, []), (1, 90, []), (0, 0, [(2, 1), (2, 24), (2, 16), (2, 17), (2, 18), (2, 19), (1, 0), (0, 0), (0, 0), (2, 20), (2, 21), (2, 22), (2, 23)]), (2, 640, []), (2, 300, []), (2, 4, []), (2, 10, []), (1, 80, []), (1, 80, []), (3, 80, []), (2, 2, []), (0, 5, [(0, 0), (0, 0), (0, 0), (0, 0), (0, 0), (2, 25), (2, 26), (2, 27), (2, 28)]), (1, 80, []), (1, 80, []), (1, 60, []), (1, 60, []), (0, 0, [(3, 0), (3, 0), (2, 30), (2, 31), (2, 32), (2, 33), (1, 0), (0, 0), (0, 0), (2, 34), (2, 35), (2, 36), (3, 0)]), (2, 640, []), (2, 300, []), (2, 4, []), (2, 10, []), (1, 80, []), (1, 80, []), (3, 80, [])]
theorem sg_72_len : sg_72.length = 37 := rfl
def sg_73 : List Sh := [(0, 6, [(2, 1), (2, 15), (3, 0), (3, 0), (0, 0), (0, 0), (0, 0)]), (0, 3, [(0, 0), (0, 0), (0, 0), (0, 0), (2, 2), (2, 3), (2, 4), (2, 5), (2, 6), (2, 7), (2, 8), (2, 9), (2, 10), (2, 11), (2, 12), (2, 13), (2, 14)]), (1, 10, []), (1, 12, []), (1, 12, []), (1, 80, []), (1, 12, []), (1, 1080, []), (1, 90, []), (1, 90, []), (1, 90, []), (1, 90, []), (1, 90, []), (1, 90, []), (1, 90, []), (0, 0, [(2, 1), (2, 24), (2, 16), (2, 17), (2, 18), (2, 19), (1, 0), (0, 0), (0, 0), (2, 20), (2, 21), (2, 22), (2, 23)]), (2, 640, []), (2, 300, []), (2, 4, []), (2, 10, []), (1, 80, []), (1, 80, []), (3, 80, []), (2, 2, []), (0, 5, [(0, 0), (0, 0), (0, 0), (0, 0), (0, 0), (2, 25), (2, 26), (2, 27), (2, 28)]), (1, 80, []), (1, 80, []), (1, 60, []), (1, 60, []), (0, 0, [(3, 0), (3, 0), (2, 30), (2, 31), (2, 32), (2, 33), (1, 0), (0, 0), (0, 0), (2, 34), (2, 35), (2, 36), (3, 0)]), (2, 640, []), (2, 300, []), (2, 4, []), (2, 10, []), (1, 80, []), (1, 80, []), (3, 80, []), (2, 2, [])]
theorem sg_73_len : sg_73.length = 38 := rfl
def sg_74 : List Sh := [(0, 6, [(2, 1), (2, 15), (3, 0), (3, 0), (0, 0), (0, 0), (0, 0)]), (0, 3, [(0, 0), (0, 0), (0, 0), (0, 0), (2, 2), (2, 3), (2, 4), (2, 5), (2, 6), (2, 7), (2, 8), (2, 9), (2, 10), (2, 11), (2, 12), (2, 13), (2, 14)]), (1, 10, []), (1, 12, []), (1, 12, []), (1, 80, []), (1, 12, []), (1, 1080, []), (1, 90, []), (1, 90, []), (1, 90, []), (1, 90, []), (1, 90, []), (1, 90, []), (1, 90, []), (0, 0, [(2, 1), (2, 24), (2, 16), (2, 17), (2, 18), (2, 19), (1, 0), (0, 0), (0, 0), (2, 20), (2, 21), (2, 22), (2, 23)]), (2, 640, []), (2, 300, []), (2, 4, []), (2, 10, []), (1, 80, []), (1, 80, []), (3, 80, []), (2, 2, []), (0, 5, [(0, 0), (0, 0), (0, 0), (0, 0), (0, 0), (2, 25), (2, 26), (2, 27), (2, 28)]), (1, 80, []), (1, 80, []), (1, 60, []), (1, 60, []), (0, 0, [(3, 0), (3, 0), (2, 30), (2, 31), (2, 32), (2, 33), (1, 0), (0, 0), (0, 0), (2, 34), (2, 35), (2, 36), (2, 37)]), (2, 640, []), (2, 300, []), (2, 4, []), (2, 10, []), (1, 80, []), (1, 80, []), (3, 80, []), (2, 2, [])]
theorem sg_74_len : sg_74.length = 38 := rfl
def sg_75 : List Sh := [(0, 6, [(2, 1), (2, 15), (3, 0), (3, 0), (0, 0), (0, 0), (0, 0)]), (0, 3, [(0, 0), (0, 0), (0, 0), (0, 0), (2, 2), (2, 3), (2, 4), (2, 5), (2, 6), (2, 7), (2, 8), (2, 9), (2, 10), (2, 11), (2, 12), (2, 13), (2, 14)]), (1, 10, []), (1, 12, []), (1, 12, []), (1, 80, []), (1, 12, []), (1, 1080, []), (1, 90, []), (1, 90, []), (1, 90, []), (1, 90, []), (1, 90, []), (1, 90, []), (1, 90, []), (0, 0, [(2, 1), (2, 24), (2, 16), (2, 17), (2, 18), (2, 19), (1, 0), (0, 0), (0, 0), (2, 20), (2, 21), (2, 22), (2, 23)]), (2, 640, []), (2, 300, []), (2, 4, []), (2, 10, []), (1, 80, []), (1, 80, []), (3, 80, []), (2, 2, []), (0, 5, [(0, 0), (0, 0), (0, 0), (0, 0), (0, 0), (2, 25), (2, 26), (2, 27), (2, 28)]), (1, 80, []), (1, 80, []), (1, 60, []), (1, 60, []), (0, 0, [(2, 1), (3, 0), (2, 30), (2, 31), (2, 32), (2, 33), (1, 0), (0, 0), (0, 0), (2, 34), (2, 35), (2, 36), (2, 37)]), (2, 640, []), (2, 300, []), (2, 4, []), (2, 10, []), (1, 80, []), (1, 80, []), (3, 80, []), (2, 2, [])]
theorem sg_75_len : sg_75.length = 38 := rfl
def sg_76 : List Sh := [(0, 6, [(2, 1), (2, 15), (3, 0), (3, 0), (0, 0), (0, 0), (0, 0)]), (0, 3, [(0, 0), (0, 0), (0, 0), (0, 0), (2, 2), (2, 3), (2, 4), (2, 5), (2, 6), (2, 7), (2, 8), (2, 9), (2, 10), (2, 11), (2, 12), (2, 13), (2, 14)]), (1, 10, []), (1, 12, []), (1, 12, []), (1, 80, []), (1, 12, []), (1, 1080, []), (1, 90, []), (1, 90, []), (1, 90, []), (1, 90, []), (1, 90, []), (1, 90, []), (1, 90, []), (0, 0, [(2, 1), (2, 24), (2, 16), (2, 17), (2, 18), (2, 19), (1, 0), (0, 0), (0, 0), (2, 20), (2, 21), (2, 22), (2, 23)]), (2, 640, []), (2, 300, []), (2, 4, []), (2, 10, []), (1, 80, []), (1, 80, []), (3, 80, []), (2, 2, []), (0, 5, [(0, 0), (0, 0), (0, 0), (0, 0), (0, 0), (2, 25), (2, 26), (2, 27), (2, 28)]), (1, 80, []), (1, 80, []), (1, 60, []), (1, 60, []), (0, 0, [(2, 1), (3, 0), (2, 30), (2, 31), (2, 32), (2, 33), (1, 0), (0, 0), (0, 0), (2, 34), (2, 35), (2, 36), (2, 37)]), (2, 640, []), (2, 300, []), (2, 4, []), (2, 10, []), (1, 80, []), (1, 80, []), (3, 80, []), (2, 2, []), (0, 5, [(0, 0), (0, 0), (0, 0), (0, 0), (0, 0), (3, 0), (3, 0), (3, 0), (3, 0)])]
theorem sg_76_len : sg_76.length = 39 := rfl
def sg_77 : List Sh := [(0, 6, [(2, 1), (2, 15), (3, 0), (3, 0), (0, 0), (0, 0), (0, 0)]), (0, 3, [(0, 0), (0, 0), (0, 0), (0, 0), (2, 2), (2, 3), (2, 4), (2, 5), (2, 6), (2, 7), (2, 8), (2, 9), (2, 10), (2, 11), (2, 12), (2, 13), (2, 14)]), (1, 10, []), (1, 12, []), (1, 12, []), (1, 80, []), (1, 12, []), (1, 1080, []), (1, 90, []), (1, 90, []), (1, 90, []), (1, 90, []), (1, 90, []), (1, 90, []), (1, 90, []), (0, 0, [(2, 1), (2, 24), (2, 16), (2, 17), (2, 18), (2, 19), (1, 0), (0, 0), (0, 0), (2, 20), (2, 21), (2, 22), (2, 23)]), (2, 640, []), (2, 300, []), (2, 4, []), (2, 10, []), (1, 80, []), (1, 80, []), (3, 80, []), (2, 2, []), (0, 5, [(0, 0), (0, 0), (0, 0), (0, 0), (0, 0), (2, 25), (2, 26), (2, 27), (2, 28)]), (1, 80, []), (1, 80, []), (1, 60, []), (1, 60, []), (0, 0, [(2, 1), (3, 0), (2, 30), (2, 31), (2, 32), (2, 33), (1, 0), (0, 0), (0, 0), (2, 34), (2, 35), (2, 36), (2, 37)]), (2, 640, []), (2, 300, []), (2, 4, []), (2, 10, []), (1, 80, []), (1, 80, []), (3, 80, []), (2, 2, []), (0, 5, [(0, 0), (0, 0), (0, 0), (0, 0), (0, 0), (3, 0), (3, 0), (3, 0), (3, 0)]), (1, 80, [])]
theorem sg_77_len : sg_77.length = 40 := rfl
def sg_78 : List Sh := [(0, 6, [(2, 1), (2, 15), (3, 0), (3, 0), (0, 0), (0, 0), (0, 0)]), (0, 3, [(0, 0), (0, 0), (0, 0), (0, 0), (2, 2), (2, 3), (2, 4), (2, 5), (2, 6), (2, 7), (2, 8), (2, 9), (2, 10), (2, 11), (2, 12), (2, 13), (2, 14)]), (1, 10, []), (1, 12, []), (1, 12, []), (1, 80, []), (1, 12, []), (1, 1080, []), (1, 90, []), (1, 90, []), (1, 90, []), (1, 90, []), (1, 90, []), (1, 90, []), (1, 90, []), (0, 0, [(2, 1), (2, 24), (2, 16), (2, 17), (2, 18), (2, 19), (1, 0), (0, 0), (0, 0), (2, 20), (2, 21), (2, 22), (2, 23)]), (2, 640, []), (2, 300, []), (2, 4, []), (2, 10, []), (1, 80, []), (1, 80, []), (3, 80, []), (2, 2, []), (0, 5, [(0, 0), (0, 0), (0, 0), (0, 0), (0, 0), (2, 25), (2, 26), (2, 27), (2, 28)]), (1, 80, []), (1, 80, []), (1, 60, []), (1, 60, []), (0, 0, [(2, 1), (3, 0), (2, 30), (2, 31), (2, 32), (2, 33), (1, 0), (0, 0), (0, 0), (2, 34), (2, 35), (2, 36), (2, 37)]), (2, 640, []), (2, 300, []), (2, 4, []), (2, 10, []), (1, 80, []), (1, 80, []), (3, 80, []), (2, 2, []), (0, 5, [(0, 0), (0, 0), (0, 0), (0, 0), (0, 0), (2, 39), (3, 0), (3, 0), (3, 0)]), (1, 80, [])]
theorem sg_78_len : sg_78.length = 40 := rfl
def sg_79 : List Sh := [(0, 6, [(2, 1), (2, 15), (3, 0), (3, 0), (0, 0), (0, 0), (0, 0)]), (0, 3, [(0, 0), (0, 0), (0, 0), (0, 0), (2, 2), (2, 3), (2, 4), (2, 5), (2, 6), (2, 7), (2, 8), (2, 9), (2, 10), (2, 11), (2, 12), (2, 13), (2, 14)]), (1, 10, []), (1, 12, []), (1, 12, []), (1, 80, []), (1, 12, []), (1, 1080, []), (1, 90, []), (1, 90, []), (1, 90, []), (1, 90, []), (1, 90, []), (1, 90, []), (1, 90, []), (0, 0, [(2, 1), (2, 24), (2, 16), (2, 17), (2, 18), (2, 19), (1, 0), (0, 0), (0, 0), (2, 20), (2, 21), (2, 22), (2, 23)]), (2, 640, []), (2, 300, []), (2, 4, []), (2, 10, []), (1, 80, []), (1, 80, []), (3, 80, []), (2, 2, []), (0, 5, [(0, 0), (0, 0), (0, 0), (0, 0), (0, 0), (2, 25), (2, 26), (2, 27), (2, 28)]), (1, 80, []), (1, 80, []), (1, 60, []), (1, 60, []), (0, 0, [(2, 1), (3, 0), (2, 30), (2, 31), (2, 32), (2, 33), (1, 0), (0, 0), (0, 0), (2, 34), (2, 35), (2, 36), (2, 37)]), (2, 640, []), (2, 300, []), (2, 4, []), (2, 10, []), (1, 80, []), (1, 80, []), (3, 80, []), (2, 2, []), (0, 5, [(0, 0), (0, 0), (0, 0), (0, 0), (0, 0), (2, 39), (3, 0), (3, 0), (3, 0)]), (1, 80, []), (1, 80, [])]
theorem sg_79_len : sg_79.length = 41 := rfl
def sg_80 : List Sh := [(0, 6, [(2, 1), (2, 15), (3, 0), (3, 0), (0, 0), (0, 0), (0, 0)]), (0, 3, [(0, 0), (0, 0), (0, 0), (0, 0), (2, 2), (2, 3), (2, 4), (2, 5), (2, 6), (2, 7), (2, 8), (2, 9), (2, 10), (2, 11), (2, 12), (2, 13), (2, 14)]), (1, 10, []), (1, 12, []), (1, 12, []), (1, 80, []), (1, 12, []), (1, 1080, []), (1, 90, []), (1, 90, []), (1, 90, []), (1, 90, []), (1, 90, []), (1, 90, []), (1, 90, []), (0, 0, [(2, 1), (2, 24), (2, 16), (2, 17), (2, 18), (2, 19), (1, 0), (0, 0), (0, 0), (2, 20), (2, 21), (2, 22), (2, 23)]), (2, 640, []), (2, 300, []), (2, 4, []), (2, 10, []), (1, 80, []), (1, 80, []), (3, 80, []), (2, 2, []), (0, 5, [(0, 0), (0, 0), (0, 0), (0, 0), (0, 0), (2, 25), (2, 26), (2, 27), (2, 28)]), (1, 80, []), (1, 80, []), (1, 60, []), (1, 60, []), (0, 0, [(2, 1), (3, 0), (2, 30), (2, 31), (2, 32), (2, 33), (1, 0), (0, 0), (0, 0), (2, 34), (2, 35), (2, 36), (2, 37)]), (2, 640, []), (2, 300, []), (2, 4, []), (2, 10, []), (1, 80, []), (1, 80, []), (3, 80, []), (2, 2, []), (0, 5, [(0, 0), (0, 0), (0, 0), (0, 0), (0, 0), (2, 39), (2, 40), (3, 0), (3, 0)]), (1, 80, []), (1, 80, [])]
theorem sg_80_len : sg_80.length = 41 := rfl
def sg_81 : List Sh := [(0, 6, [(2, 1), (2, 15), (3, 0), (3, 0), (0, 0), (0, 0), (0, 0)]), (0, 3, [(0, 0), (0, 0), (0, 0), (0, 0), (2, 2), (2, 3), (2, 4), (2, 5), (2, 6), (2, 7), (2, 8), (2, 9), (2, 10), (2, 11), (2, 12), (2, 13), (2, 14)]), (1, 10, []), (1, 12, []), (1, 12, []), (1, 80, []), (1, 12, []), (1, 1080, []), (1, 90, []), (1, 90, []), (1, 90, []), (1, 90, []), (1, 90, []), (1, 90, []), (1, 90, []), (0, 0, [(2, 1), (2, 24), (2, 16), (2, 17), (2, 18), (2, 19), (1, 0), (0, 0), (0, 0), (2, 20), (2, 21), (2, 22), (2, 23)]), (2, 640, []), (2, 300, []), (2, 4, []), (2, 10, []), (1, 80, []), (1, 80, []), (3, 80, []), (2, 2, []), (0, 5, [(0, 0), (0, 0), (0, 0), (0, 0), (0, 0), (2, 25), (2, 26), (2, 27), (2, 28)]), (1, 80, []), (1, 80, []), (1, 60, []), (1, 60, []), (0, 0, [(2, 1), (3, 0), (2, 30), (2, 31), (2, 32), (2, 33), (1, 0), (0, 0), (0, 0), (2, 34), (2, 35), (2, 36), (2, 37)]), (2, 640, []), (2, 300, []), (2, 4, []), (2, 10, []), (1, 80, []), (1, 80, []), (3, 80, []), (2, 2, []), (0, 5, [(0, 0), (0, 0), (0, 0), (0, 0), (0, 0), (2, 39), (2, 40), (3, 0), (3, 0)]), (1, 80, []), (1, 80, []), (1, 60, [])]
theorem sg_81_len : sg_81.length = 42 := rfl
def sg_82 : List Sh := [(0, 6, [(2, 1), (2, 15), (3, 0), (3, 0), (0, 0), (0, 0), (0, 0)]), (0, 3, [(0, 0), (0, 0), (0, 0), (0, 0), (2, 2), (2, 3), (2, 4), (2, 5), (2, 6), (2, 7), (2, 8), (2, 9), (2, 10), (2, 11), (2, 12), (2, 13), (2, 14)]), (1, 10, []), (1, 12, []), (1, 12, []), (1, 80, []), (1, 12, []), (1, 1080, []), (1, 90, []), (1, 90, []), (1, 90, []), (1, 90, []), (1, 90, []), (1, 90, []), (1, 90, []), (0, 0, [(2, 1), (2, 24), (2, 16), (2, 17), (2, 18), (2, 19), (1, 0), (0, 0), (0, 0), (2, 20), (2, 21), (2, 22), (2, 23)]), (2, 640, []), (2, 300, []), (2, 4, []), (2, 10, []), (1, 80, []), (1, 80, []), (3, 80, []), (2, 2, []), (0, 5, [(0, 0), (0, 0), (0, 0), (0, 0), (0, 0), (2, 25), (2, 26), (2, 27), (2, 28)]), (1, 80, []), (1, 80, []), (1, 60, []), (1, 60, []), (0, 0, [(2, 1), (3, 0), (2, 30), (2, 31), (2, 32), (2, 33), (1, 0), (0, 0), (0, 0), (2, 34), (2, 35), (2, 36), (2, 37)]), (2, 640, []), (2, 300, []), (2, 4, []), (2, 10, []), (1, 80, []), (1, 80, []), (3, 80, []), (2, 2, []), (0, 5, [(0, 0), (0, 0), (0, 0), (0, 0), (0, 0), (2, 39), (2, 40), (2, 41), (3, 0)]), (1, 80, []), (1, 80, []), (1, 60, [])]
theorem sg_82_len : sg_82.length = 42 := rfl
def sg_83 : List Sh := [(0, 6, [(2, 1), (2, 15), (3, 0), (3, 0), (0, 0), (0, 0), (0, 0)]), (0, 3, [(0, 0), (0, 0), (0, 0), (0, 0), (2, 2), (2, 3), (2, 4), (2, 5), (2, 6), (2, 7), (2, 8), (2, 9), (2, 10), (2, 11), (2, 12), (2, 13), (2, 14)]), (1, 10, []), (1, 12, []), (1, 12, []), (1, 80, []), (1, 12, []), (1, 1080, []), (1, 90, []), (1, 90, []), (1, 90, []), (1, 90, []), (1, 90, []), (1, 90, []), (1, 90, []), (0, 0, [(2, 1), (2, 24), (2, 16), (2, 17), (2, 18), (2, 19), (1, 0), (0, 0), (0, 0), (2, 20), (2, 21), (2, 22), (2, 23)]), (2, 640, []), (2, 300, []), (2, 4, []), (2, 10, []), (1, 80, []), (1, 80, []), (3, 80, []), (2, 2, []), (0, 5, [(0, 0), (0, 0), (0, 0), (0, 0), (0, 0), (2, 25), (2, 26), (2, 27), (2, 28)]), (1, 80, []), (1, 80, []), (1, 60, []), (1, 60, []), (0, 0, [(2, 1), (3, 0), (2, 30), (2, 31), (2, 32), (2, 33), (1, 0), (0, 0), (0, 0), (2, 34), (2, 35), (2, 36), (2, 37)]), (2, 640, []), (2, 300, []), (2, 4, []), (2, 10, []), (1, 80, []), (1, 80, []), (3, 80, []), (2, 2, []), (0, 5, [(0, 0), (0, 0), (0, 0), (0, 0), (0, 0), (2, 39), (2, 40), (2, 41), (3, 0)]), (1, 80, []), (1, 80, []), (1, 60, []), (1, 60, [])]
theorem sg_83_len : sg_83.length = 43 := rfl
def sg_84 : List Sh := [(0, 6, [(2, 1), (2, 15), (3, 0), (3, 0), (0, 0), (0, 0), (0, 0)]), (0, 3, [(0, 0), (0, 0), (0, 0), (0, 0), (2, 2), (2, 3), (2, 4), (2, 5), (2, 6), (2, 7), (2, 8), (2, 9), (2, 10), (2, 11), (2, 12), (2, 13), (2, 14)]), (1, 10, []), (1, 12, []), (1, 12, []), (1, 80, []), (1, 12, []), (1, 1080, []), (1, 90, []), (1, 90, []), (1, 90, []), (1, 90, []), (1, 90, []), (1, 90, []), (1, 90, []), (0, 0, [(2, 1), (2, 24), (2, 16), (2, 17), (2, 18), (2, 19), (1, 0), (0, 0), (0, 0), (2, 20), (2, 21), (2, 22), (2, 23)]), (2, 640, []), (2, 300, []), (2, 4, []), (2, 10, []), (1, 80, []), (1, 80, []), (3, 80, []), (2, 2, []), (0, 5, [(0, 0), (0, 0), (0, 0), (0, 0), (0, 0), (2, 25), (2, 26), (2, 27), (2, 28)]), (1, 80, []), (1, 80, []), (1, 60, []), (1, 60, []), (0, 0, [(2, 1), (3, 0), (2, 30), (2, 31), (2, 32), (2, 33), (1, 0), (0, 0), (0, 0), (2, 34), (2, 35), (2, 36), (2, 37)]), (2, 640, []), (2, 300, []), (2, 4, []), (2, 10, []), (1, 80, []), (1, 80, []), (3, 80, []), (2, 2, []), (0, 5, [(0, 0), (0, 0), (0, 0), (0, 0), (0, 0), (2, 39), (2, 40), (2, 41), (2, 42)]), (1, 80, []), (1, 80, []), (1, 60, []), (1, 60, [])]
theorem sg_84_len : sg_84.length = 43 := rfl
def sm_X5_init_38 (σ : Mm) : Mm := (stI (stI (stI (stI (stI σ 38 0 0) 38 1 0) 38 2 0) 38 3 0) 38 4 0)
theorem ci_X5_init_38_z {σ : Mm} (h : Zb σ 39) : Zb (sm_X5_init_38 σ) 43 := by
  unfold sm_X5_init_38
  exact (Zb.stI (Zb.stI (Zb.stI (Zb.stI (Zb.stI (Zb.mono h (by decide)) (by decide)) (by decide)) (by decide)) (by decide)) (by decide))
theorem ci_X5_init_38_r {σ : Mm} (hR : Rg σ) : Rg (sm_X5_init_38 σ) := by
  unfold sm_X5_init_38
  exact (Rg.stI (Rg.stI (Rg.stI (Rg.stI (Rg.stI hR (by decide)) (by decide)) (by decide)) (by decide)) (by decide))
set_option maxRecDepth 100000 in
set_option maxHeartbeats 4000000 in
theorem ci_X5_init_38 {l : Launch} {D : va_G} {ca : Nat → ClassId} {ad : Nat → Nat} {σ : Mm} {a0 : Nat} (h0 : ad 38 = a0) (hz : Zb σ 39) (hR : Rg σ) : CtN l D vcl ca NI yX5_init (Cond.code yX5_init cX5_init 1 none :: tbG) { frames := 1, cells := 4, slots := 280, locals := 20 } [.ref a0] ad sg_76 σ sg_84 (sm_X5_init_38 σ) 4 280 := by
  refine ct_N (shs := sg_76) (shs' := sg_84) RX5 rfl (by decide) rfl rfl (Nat.le_of_ble_eq_true rfl) (fun p e s m below meth c X hN hr hlk hin => ?_)
  show GN p l e _ s m _ below meth c (MQ below (QcN D vcl ca ad sg_76.length sg_84 (stI (stI (stI (stI (stI σ 38 0 0) 38 1 0) 38 2 0) 38 3 0) 38 4 0) s.heap.size) _ s 4 280 _) 1 D vcl ca _ ad sg_76 σ 0 [(0, .ref a0)] [] 0 0
  refine n_aload_n X dX5_init_0 0 rfl ?_
  refine n_obj X (List.mem_cons_of_mem _ mw_116) (List.mem_cons_of_mem _ mw_18) (List.mem_cons_of_mem _ mw_19) dX5_init_1 (by decide) (Nat.le_of_ble_eq_true rfl) ?_
  refine n_aload_n X dX5_init_4 0 rfl ?_
  refine n_iconst X dX5_init_5 ?_
  refine n_putI (shs := sg_76) (ty := .int) X (iXc5 _) (k := 38) rfl rfl 0 (by decide) tyX5 tyX5_ok nmX5 rfl (List.mem_cons_of_mem _ mw_117) (by decide +kernel) (by decide) (by decide) rfl h0 dX5_init_6 ?_
  replace hz : Zb (stI σ 38 0 0) 39 := Zb.stI hz (by decide)
  replace hR : Rg (stI σ 38 0 0) := Rg.stI hR (by decide)
  refine n_aload_n X dX5_init_9 0 rfl ?_
  refine n_iconst X dX5_init_10 ?_
  refine n_putI (shs := sg_76) (ty := .int) X (iXc5 _) (k := 38) rfl rfl 1 (by decide) tyX5 tyX5_ok nmX5 rfl (List.mem_cons_of_mem _ mw_118) (by decide +kernel) (by decide) (by decide) rfl h0 dX5_init_11 ?_
  replace hz : Zb (stI (stI σ 38 0 0) 38 1 0) 39 := Zb.stI hz (by decide)
  replace hR : Rg (stI (stI σ 38 0 0) 38 1 0) := Rg.stI hR (by decide)
  refine n_aload_n X dX5_init_14 0 rfl ?_
  refine n_iconst X dX5_init_15 ?_
  refine n_putI (shs := sg_76) (ty := .int) X (iXc5 _) (k := 38) rfl rfl 2 (by decide) tyX5 tyX5_ok nmX5 rfl (List.mem_cons_of_mem _ mw_120) (by decide +kernel) (by decide) (by decide) rfl h0 dX5_init_16 ?_
  replace hz : Zb (stI (stI (stI σ 38 0 0) 38 1 0) 38 2 0) 39 := Zb.stI hz (by decide)
  replace hR : Rg (stI (stI (stI σ 38 0 0) 38 1 0) 38 2 0) := Rg.stI hR (by decide)
  refine n_aload_n X dX5_init_19 0 rfl ?_
  refine n_iconst X dX5_init_20 ?_
  refine n_putI (shs := sg_76) (ty := .int) X (iXc5 _) (k := 38) rfl rfl 3 (by decide) tyX5 tyX5_ok nmX5 rfl (List.mem_cons_of_mem _ mw_123) (by decide +kernel) (by decide) (by decide) rfl h0 dX5_init_21 ?_
  replace hz : Zb (stI (stI (stI (stI σ 38 0 0) 38 1 0) 38 2 0) 38 3 0) 39 := Zb.stI hz (by decide)
  replace hR : Rg (stI (stI (stI (stI σ 38 0 0) 38 1 0) 38 2 0) 38 3 0) := Rg.stI hR (by decide)
  refine n_aload_n X dX5_init_24 0 rfl ?_
  refine n_iconst X dX5_init_25 ?_
  refine n_putI (shs := sg_76) (ty := .boolean) X (iXc5 _) (k := 38) rfl rfl 4 (by decide) tyX5 tyX5_ok nmX5 rfl (List.mem_cons_of_mem _ mw_126) (by decide +kernel) (by decide) (by decide) rfl h0 dX5_init_26 ?_
  replace hz : Zb (stI (stI (stI (stI (stI σ 38 0 0) 38 1 0) 38 2 0) 38 3 0) 38 4 0) 39 := Zb.stI hz (by decide)
  replace hR : Rg (stI (stI (stI (stI (stI σ 38 0 0) 38 1 0) 38 2 0) 38 3 0) 38 4 0) := Rg.stI hR (by decide)
  refine n_aload_n X dX5_init_29 0 rfl ?_
  refine n_bipush X dX5_init_30 (by decide) ?_
  refine n_arr (shs := sg_76) (shs' := sg_77) (atype := .int) (tg := 1) (n := 80) (ty := .int) (a0 := (80, .inl (fun _ => 0))) X Aw_new (List.mem_cons_of_mem _ mw_104) rfl (fun _ => rfl) (by decide) (by decide) (by decide) (by decide) (cel_I hz) rfl (by decide) dX5_init_32 (fun ad1 q1 hk1 hq1 => ?_)
  have ht38_1 : ad1 38 = a0 := (hk1 38 (by decide)).trans h0
  have hc1 : ∀ k, k < sg_76.length → ad1 k = ad k := fun k hk => (hk1 k (Nat.lt_of_lt_of_le hk (by decide))).trans ((fun _ _ => rfl) k hk)
  replace hz : Zb (stI (stI (stI (stI (stI σ 38 0 0) 38 1 0) 38 2 0) 38 3 0) 38 4 0) 40 := Zb.mono hz (by decide)
  refine n_putR (shs := sg_77) (shs' := sg_78) (ty := .array .int) (z := 39) X (iXc5 _) (k := 38) rfl rfl 5 (by decide) tyX5 tyX5_ok nmX5 rfl hin rfl (List.mem_cons_of_mem _ mw_128) (by decide +kernel) rfl rfl (by decide) ht38_1 hq1 rfl dX5_init_34 ?_
  refine n_aload_n X dX5_init_37 0 rfl ?_
  refine n_bipush X dX5_init_38 (by decide) ?_
  refine n_arr (shs := sg_78) (shs' := sg_79) (atype := .int) (tg := 1) (n := 80) (ty := .int) (a0 := (80, .inl (fun _ => 0))) X Aw_new (List.mem_cons_of_mem _ mw_104) rfl (fun _ => rfl) (by decide) (by decide) (by decide) (by decide) (cel_I hz) rfl (by decide) dX5_init_40 (fun ad2 q2 hk2 hq2 => ?_)
  have ht38_2 : ad2 38 = a0 := (hk2 38 (by decide)).trans ht38_1
  have ht39_2 : ad2 39 = q1 := (hk2 39 (by decide)).trans hq1
  have hc2 : ∀ k, k < sg_76.length → ad2 k = ad k := fun k hk => (hk2 k (Nat.lt_of_lt_of_le hk (by decide))).trans (hc1 k hk)
  replace hz : Zb (stI (stI (stI (stI (stI σ 38 0 0) 38 1 0) 38 2 0) 38 3 0) 38 4 0) 41 := Zb.mono hz (by decide)
  refine n_putR (shs := sg_79) (shs' := sg_80) (ty := .array .int) (z := 40) X (iXc5 _) (k := 38) rfl rfl 6 (by decide) tyX5 tyX5_ok nmX5 rfl hin rfl (List.mem_cons_of_mem _ mw_131) (by decide +kernel) rfl rfl (by decide) ht38_2 hq2 rfl dX5_init_42 ?_
  refine n_aload_n X dX5_init_45 0 rfl ?_
  refine n_bipush X dX5_init_46 (by decide) ?_
  refine n_arr (shs := sg_80) (shs' := sg_81) (atype := .int) (tg := 1) (n := 60) (ty := .int) (a0 := (60, .inl (fun _ => 0))) X Aw_new (List.mem_cons_of_mem _ mw_104) rfl (fun _ => rfl) (by decide) (by decide) (by decide) (by decide) (cel_I hz) rfl (by decide) dX5_init_48 (fun ad3 q3 hk3 hq3 => ?_)
  have ht38_3 : ad3 38 = a0 := (hk3 38 (by decide)).trans ht38_2
  have ht39_3 : ad3 39 = q1 := (hk3 39 (by decide)).trans ht39_2
  have ht40_3 : ad3 40 = q2 := (hk3 40 (by decide)).trans hq2
  have hc3 : ∀ k, k < sg_76.length → ad3 k = ad k := fun k hk => (hk3 k (Nat.lt_of_lt_of_le hk (by decide))).trans (hc2 k hk)
  replace hz : Zb (stI (stI (stI (stI (stI σ 38 0 0) 38 1 0) 38 2 0) 38 3 0) 38 4 0) 42 := Zb.mono hz (by decide)
  refine n_putR (shs := sg_81) (shs' := sg_82) (ty := .array .int) (z := 41) X (iXc5 _) (k := 38) rfl rfl 7 (by decide) tyX5 tyX5_ok nmX5 rfl hin rfl (List.mem_cons_of_mem _ mw_132) (by decide +kernel) rfl rfl (by decide) ht38_3 hq3 rfl dX5_init_50 ?_
  refine n_aload_n X dX5_init_53 0 rfl ?_
  refine n_bipush X dX5_init_54 (by decide) ?_
  refine n_arr (shs := sg_82) (shs' := sg_83) (atype := .int) (tg := 1) (n := 60) (ty := .int) (a0 := (60, .inl (fun _ => 0))) X Aw_new (List.mem_cons_of_mem _ mw_104) rfl (fun _ => rfl) (by decide) (by decide) (by decide) (by decide) (cel_I hz) rfl (by decide) dX5_init_56 (fun ad4 q4 hk4 hq4 => ?_)
  have ht38_4 : ad4 38 = a0 := (hk4 38 (by decide)).trans ht38_3
  have ht39_4 : ad4 39 = q1 := (hk4 39 (by decide)).trans ht39_3
  have ht40_4 : ad4 40 = q2 := (hk4 40 (by decide)).trans ht40_3
  have ht41_4 : ad4 41 = q3 := (hk4 41 (by decide)).trans hq3
  have hc4 : ∀ k, k < sg_76.length → ad4 k = ad k := fun k hk => (hk4 k (Nat.lt_of_lt_of_le hk (by decide))).trans (hc3 k hk)
  replace hz : Zb (stI (stI (stI (stI (stI σ 38 0 0) 38 1 0) 38 2 0) 38 3 0) 38 4 0) 43 := Zb.mono hz (by decide)
  refine n_putR (shs := sg_83) (shs' := sg_84) (ty := .array .int) (z := 42) X (iXc5 _) (k := 38) rfl rfl 8 (by decide) tyX5 tyX5_ok nmX5 rfl hin rfl (List.mem_cons_of_mem _ mw_135) (by decide +kernel) rfl rfl (by decide) ht38_4 hq4 rfl dX5_init_58 ?_
  exact n_vret X hr hlk hc4 dX5_init_61
def sg_85 : List Sh := [(0, 6, [(2, 1), (2, 15), (3, 0), (3, 0), (0, 0), (0, 0), (0, 0)]), (0, 3, [(0, 0), (0, 0), (0, 0), (0, 0), (2, 2), (2, 3), (2, 4), (2, 5), (2, 6), (2, 7), (2, 8), (2, 9), (2, 10), (2, 11), (2, 12), (2, 13), (2, 14)]), (1, 10, []), (1, 12, []), (1, 12, []), (1, 80, []), (1, 12, []), (1, 1080, []), (1, 90, []), (1, 90, []), (1, 90, []), (1, 90, []), (1, 90, []), (1, 90, []), (1, 90, []), (0, 0, [(2, 1), (2, 24), (2, 16), (2, 17), (2, 18), (2, 19), (1, 0), (0, 0), (0, 0), (2, 20), (2, 21), (2, 22), (2, 23)]), (2, 640, []), (2, 300, []), (2, 4, []), (2, 10, []), (1, 80, []), (1, 80, []), (3, 80, []), (2, 2, []), (0, 5, [(0, 0), (0, 0), (0, 0), (0, 0), (0, 0), (2, 25), (2, 26), (2, 27), (2, 28)]), (1, 80, []), (1, 80, []), (1, 60, []), (1, 60, []), (0, 0, [(2, 1), (2, 38), (2, 30), (2, 31), (2, 32), (2, 33), (1, 0), (0, 0), (0, 0), (2, 34), (2, 35), (2, 36), (2, 37)]), (2, 640, []), (2, 300, []), (2, 4, []), (2, 10, []), (1, 80, []), (1, 80, []), (3, 80, []), (2, 2, []), (0, 5, [(0, 0), (0, 0), (0, 0), (0, 0), (0, 0), (2, 39), (2, 40), (2, 41), (2, 42)]), (1, 80, []), (1, 80, []), (1, 60, []), (1, 60, [])]
theorem sg_85_len : sg_85.length = 43 := rfl
def sm_X0_init_29 (σ : Mm) : Mm := (sm_X5_init_38 (stI (stI (stL σ 29 6 0) 29 7 0) 29 8 0))
theorem ci_X0_init_29_z {σ : Mm} (h : Zb σ 30) : Zb (sm_X0_init_29 σ) 43 := by
  unfold sm_X0_init_29
  exact (Zb.mono (ci_X5_init_38_z (Zb.stI (Zb.stI (Zb.stL (Zb.mono h (by decide)) (by decide)) (by decide)) (by decide))) (by decide))
theorem ci_X0_init_29_r {σ : Mm} (hR : Rg σ) : Rg (sm_X0_init_29 σ) := by
  unfold sm_X0_init_29
  exact (ci_X5_init_38_r (Rg.stI (Rg.stI (Rg.stL hR) (by decide)) (by decide)))
set_option maxRecDepth 100000 in
set_option maxHeartbeats 4000000 in
theorem ci_X0_init_29 {l : Launch} {D : va_G} {ca : Nat → ClassId} {ad : Nat → Nat} {σ : Mm} {a0 a1 : Nat} (h0 : ad 29 = a0) (h1 : ad 1 = a1) (hz : Zb σ 30) (hR : Rg σ) : CtN l D vcl ca NI yX0_init (Cond.code yX0_init cX0_init 2 none :: tbG) { frames := 2, cells := 13, slots := 1485, locals := 40 } [.ref a0, .ref a1] ad sg_58 σ sg_85 (sm_X0_init_29 σ) 13 1485 := by
  refine ct_N (shs := sg_58) (shs' := sg_85) RX0 rfl (by decide) rfl rfl (Nat.le_of_ble_eq_true rfl) (fun p e s m below meth c X hN hr hlk hin => ?_)
  show GN p l e _ s m _ below meth c (MQ below (QcN D vcl ca ad sg_58.length sg_85 (sm_X5_init_38 (stI (stI (stL σ 29 6 0) 29 7 0) 29 8 0)) s.heap.size) _ s 13 1485 _) 2 D vcl ca _ ad sg_58 σ 0 [(0, .ref a0), (1, .ref a1)] [] 0 0
  refine n_aload_n X dX0_init_0 0 rfl ?_
  refine n_obj X (List.mem_cons_of_mem _ mw_110) (List.mem_cons_of_mem _ mw_18) (List.mem_cons_of_mem _ mw_19) dX0_init_1 (by decide) (Nat.le_of_ble_eq_true rfl) ?_
  refine n_aload_n X dX0_init_4 0 rfl ?_
  refine n_sipush X dX0_init_5 (by decide) ?_
  refine n_arr (shs := sg_58) (shs' := sg_59) (atype := .long) (tg := 2) (n := 640) (ty := .long) (a0 := (640, .inr (.inl (fun _ => 0)))) X Aw_new (List.mem_cons_of_mem _ mw_156) rfl (fun _ => rfl) (by decide) (by decide) (by decide) (by decide) (cel_J hz) rfl (by decide) dX0_init_8 (fun ad1 q1 hk1 hq1 => ?_)
  have ht29_1 : ad1 29 = a0 := (hk1 29 (by decide)).trans h0
  have ht1_1 : ad1 1 = a1 := (hk1 1 (by decide)).trans h1
  have hc1 : ∀ k, k < sg_58.length → ad1 k = ad k := fun k hk => (hk1 k (Nat.lt_of_lt_of_le hk (by decide))).trans ((fun _ _ => rfl) k hk)
  replace hz : Zb σ 31 := Zb.mono hz (by decide)
  refine n_putR (shs := sg_59) (shs' := sg_60) (ty := .array .long) (z := 30) X (iXc0 _) (k := 29) rfl rfl 2 (by decide) tyX0 tyX0_ok nmX0 rfl hin rfl (List.mem_cons_of_mem _ mw_162) (by decide +kernel) rfl rfl (by decide) ht29_1 hq1 rfl dX0_init_10 ?_
  refine n_aload_n X dX0_init_13 0 rfl ?_
  refine n_sipush X dX0_init_14 (by decide) ?_
  refine n_arr (shs := sg_60) (shs' := sg_61) (atype := .long) (tg := 2) (n := 300) (ty := .long) (a0 := (300, .inr (.inl (fun _ => 0)))) X Aw_new (List.mem_cons_of_mem _ mw_156) rfl (fun _ => rfl) (by decide) (by decide) (by decide) (by decide) (cel_J hz) rfl (by decide) dX0_init_17 (fun ad2 q2 hk2 hq2 => ?_)
  have ht29_2 : ad2 29 = a0 := (hk2 29 (by decide)).trans ht29_1
  have ht1_2 : ad2 1 = a1 := (hk2 1 (by decide)).trans ht1_1
  have ht30_2 : ad2 30 = q1 := (hk2 30 (by decide)).trans hq1
  have hc2 : ∀ k, k < sg_58.length → ad2 k = ad k := fun k hk => (hk2 k (Nat.lt_of_lt_of_le hk (by decide))).trans (hc1 k hk)
  replace hz : Zb σ 32 := Zb.mono hz (by decide)
  refine n_putR (shs := sg_61) (shs' := sg_62) (ty := .array .long) (z := 31) X (iXc0 _) (k := 29) rfl rfl 3 (by decide) tyX0 tyX0_ok nmX0 rfl hin rfl (List.mem_cons_of_mem _ mw_163) (by decide +kernel) rfl rfl (by decide) ht29_2 hq2 rfl dX0_init_19 ?_
  refine n_aload_n X dX0_init_22 0 rfl ?_
  refine n_iconst X dX0_init_23 ?_
  refine n_arr (shs := sg_62) (shs' := sg_63) (atype := .long) (tg := 2) (n := 4) (ty := .long) (a0 := (4, .inr (.inl (fun _ => 0)))) X Aw_new (List.mem_cons_of_mem _ mw_156) rfl (fun _ => rfl) (by decide) (by decide) (by decide) (by decide) (cel_J hz) rfl (by decide) dX0_init_24 (fun ad3 q3 hk3 hq3 => ?_)
  have ht29_3 : ad3 29 = a0 := (hk3 29 (by decide)).trans ht29_2
  have ht1_3 : ad3 1 = a1 := (hk3 1 (by decide)).trans ht1_2
  have ht30_3 : ad3 30 = q1 := (hk3 30 (by decide)).trans ht30_2
  have ht31_3 : ad3 31 = q2 := (hk3 31 (by decide)).trans hq2
  have hc3 : ∀ k, k < sg_58.length → ad3 k = ad k := fun k hk => (hk3 k (Nat.lt_of_lt_of_le hk (by decide))).trans (hc2 k hk)
  replace hz : Zb σ 33 := Zb.mono hz (by decide)
  refine n_putR (shs := sg_63) (shs' := sg_64) (ty := .array .long) (z := 32) X (iXc0 _) (k := 29) rfl rfl 4 (by decide) tyX0 tyX0_ok nmX0 rfl hin rfl (List.mem_cons_of_mem _ mw_164) (by decide +kernel) rfl rfl (by decide) ht29_3 hq3 rfl dX0_init_26 ?_
  refine n_aload_n X dX0_init_29 0 rfl ?_
  refine n_bipush X dX0_init_30 (by decide) ?_
  refine n_arr (shs := sg_64) (shs' := sg_65) (atype := .long) (tg := 2) (n := 10) (ty := .long) (a0 := (10, .inr (.inl (fun _ => 0)))) X Aw_new (List.mem_cons_of_mem _ mw_156) rfl (fun _ => rfl) (by decide) (by decide) (by decide) (by decide) (cel_J hz) rfl (by decide) dX0_init_32 (fun ad4 q4 hk4 hq4 => ?_)
  have ht29_4 : ad4 29 = a0 := (hk4 29 (by decide)).trans ht29_3
  have ht1_4 : ad4 1 = a1 := (hk4 1 (by decide)).trans ht1_3
  have ht30_4 : ad4 30 = q1 := (hk4 30 (by decide)).trans ht30_3
  have ht31_4 : ad4 31 = q2 := (hk4 31 (by decide)).trans ht31_3
  have ht32_4 : ad4 32 = q3 := (hk4 32 (by decide)).trans hq3
  have hc4 : ∀ k, k < sg_58.length → ad4 k = ad k := fun k hk => (hk4 k (Nat.lt_of_lt_of_le hk (by decide))).trans (hc3 k hk)
  replace hz : Zb σ 34 := Zb.mono hz (by decide)
  refine n_putR (shs := sg_65) (shs' := sg_66) (ty := .array .long) (z := 33) X (iXc0 _) (k := 29) rfl rfl 5 (by decide) tyX0 tyX0_ok nmX0 rfl hin rfl (List.mem_cons_of_mem _ mw_167) (by decide +kernel) rfl rfl (by decide) ht29_4 hq4 rfl dX0_init_34 ?_
  refine n_aload_n X dX0_init_37 0 rfl ?_
  refine n_lconst X 0 dX0_init_38 rfl ?_
  refine n_putL (shs := sg_66) X (iXc0 _) (k := 29) rfl rfl 6 (by decide) tyX0 tyX0_ok nmX0 rfl (List.mem_cons_of_mem _ mw_168) (by decide +kernel) rfl ht29_4 dX0_init_39 ?_
  replace hz : Zb (stL σ 29 6 0) 34 := Zb.stL hz (by decide)
  replace hR : Rg (stL σ 29 6 0) := Rg.stL hR
  refine n_aload_n X dX0_init_42 0 rfl ?_
  refine n_iconst X dX0_init_43 ?_
  refine n_putI (shs := sg_66) (ty := .boolean) X (iXc0 _) (k := 29) rfl rfl 7 (by decide) tyX0 tyX0_ok nmX0 rfl (List.mem_cons_of_mem _ mw_169) (by decide +kernel) (by decide) (by decide) rfl ht29_4 dX0_init_44 ?_
  replace hz : Zb (stI (stL σ 29 6 0) 29 7 0) 34 := Zb.stI hz (by decide)
  replace hR : Rg (stI (stL σ 29 6 0) 29 7 0) := Rg.stI hR (by decide)
  refine n_aload_n X dX0_init_47 0 rfl ?_
  refine n_iconst X dX0_init_48 ?_
  refine n_putI (shs := sg_66) (ty := .int) X (iXc0 _) (k := 29) rfl rfl 8 (by decide) tyX0 tyX0_ok nmX0 rfl (List.mem_cons_of_mem _ mw_170) (by decide +kernel) (by decide) (by decide) rfl ht29_4 dX0_init_49 ?_
  replace hz : Zb (stI (stI (stL σ 29 6 0) 29 7 0) 29 8 0) 34 := Zb.stI hz (by decide)
  replace hR : Rg (stI (stI (stL σ 29 6 0) 29 7 0) 29 8 0) := Rg.stI hR (by decide)
  refine n_aload_n X dX0_init_52 0 rfl ?_
  refine n_bipush X dX0_init_53 (by decide) ?_
  refine n_arr (shs := sg_66) (shs' := sg_67) (atype := .int) (tg := 1) (n := 80) (ty := .int) (a0 := (80, .inl (fun _ => 0))) X Aw_new (List.mem_cons_of_mem _ mw_104) rfl (fun _ => rfl) (by decide) (by decide) (by decide) (by decide) (cel_I hz) rfl (by decide) dX0_init_55 (fun ad5 q5 hk5 hq5 => ?_)
  have ht29_5 : ad5 29 = a0 := (hk5 29 (by decide)).trans ht29_4
  have ht1_5 : ad5 1 = a1 := (hk5 1 (by decide)).trans ht1_4
  have ht30_5 : ad5 30 = q1 := (hk5 30 (by decide)).trans ht30_4
  have ht31_5 : ad5 31 = q2 := (hk5 31 (by decide)).trans ht31_4
  have ht32_5 : ad5 32 = q3 := (hk5 32 (by decide)).trans ht32_4
  have ht33_5 : ad5 33 = q4 := (hk5 33 (by decide)).trans hq4
  have hc5 : ∀ k, k < sg_58.length → ad5 k = ad k := fun k hk => (hk5 k (Nat.lt_of_lt_of_le hk (by decide))).trans (hc4 k hk)
  replace hz : Zb (stI (stI (stL σ 29 6 0) 29 7 0) 29 8 0) 35 := Zb.mono hz (by decide)
  refine n_putR (shs := sg_67) (shs' := sg_68) (ty := .array .int) (z := 34) X (iXc0 _) (k := 29) rfl rfl 9 (by decide) tyX0 tyX0_ok nmX0 rfl hin rfl (List.mem_cons_of_mem _ mw_172) (by decide +kernel) rfl rfl (by decide) ht29_5 hq5 rfl dX0_init_57 ?_
  refine n_aload_n X dX0_init_60 0 rfl ?_
  refine n_bipush X dX0_init_61 (by decide) ?_
  refine n_arr (shs := sg_68) (shs' := sg_69) (atype := .int) (tg := 1) (n := 80) (ty := .int) (a0 := (80, .inl (fun _ => 0))) X Aw_new (List.mem_cons_of_mem _ mw_104) rfl (fun _ => rfl) (by decide) (by decide) (by decide) (by decide) (cel_I hz) rfl (by decide) dX0_init_63 (fun ad6 q6 hk6 hq6 => ?_)
  have ht29_6 : ad6 29 = a0 := (hk6 29 (by decide)).trans ht29_5
  have ht1_6 : ad6 1 = a1 := (hk6 1 (by decide)).trans ht1_5
  have ht30_6 : ad6 30 = q1 := (hk6 30 (by decide)).trans ht30_5
  have ht31_6 : ad6 31 = q2 := (hk6 31 (by decide)).trans ht31_5
  have ht32_6 : ad6 32 = q3 := (hk6 32 (by decide)).trans ht32_5
  have ht33_6 : ad6 33 = q4 := (hk6 33 (by decide)).trans ht33_5
  have ht34_6 : ad6 34 = q5 := (hk6 34 (by decide)).trans hq5
  have hc6 : ∀ k, k < sg_58.length → ad6 k = ad k := fun k hk => (hk6 k (Nat.lt_of_lt_of_le hk (by decide))).trans (hc5 k hk)
  replace hz : Zb (stI (stI (stL σ 29 6 0) 29 7 0) 29 8 0) 36 := Zb.mono hz (by decide)
  refine n_putR (shs := sg_69) (shs' := sg_70) (ty := .array .int) (z := 35) X (iXc0 _) (k := 29) rfl rfl 10 (by decide) tyX0 tyX0_ok nmX0 rfl hin rfl (List.mem_cons_of_mem _ mw_174) (by decide +kernel) rfl rfl (by decide) ht29_6 hq6 rfl dX0_init_65 ?_
  refine n_aload_n X dX0_init_68 0 rfl ?_
  refine n_bipush X dX0_init_69 (by decide) ?_
  refine n_arr (shs := sg_70) (shs' := sg_71) (atype := .boolean) (tg := 3) (n := 80) (ty := .boolean) (a0 := (80, .inl (fun _ => 0))) X Aw_new (List.mem_cons_of_mem _ mw_157) rfl (fun _ => rfl) (by decide) (by decide) (by decide) (by decide) (cel_Z hz) rfl (by decide) dX0_init_71 (fun ad7 q7 hk7 hq7 => ?_)
  have ht29_7 : ad7 29 = a0 := (hk7 29 (by decide)).trans ht29_6
  have ht1_7 : ad7 1 = a1 := (hk7 1 (by decide)).trans ht1_6
  have ht30_7 : ad7 30 = q1 := (hk7 30 (by decide)).trans ht30_6
  have ht31_7 : ad7 31 = q2 := (hk7 31 (by decide)).trans ht31_6
  have ht32_7 : ad7 32 = q3 := (hk7 32 (by decide)).trans ht32_6
  have ht33_7 : ad7 33 = q4 := (hk7 33 (by decide)).trans ht33_6
  have ht34_7 : ad7 34 = q5 := (hk7 34 (by decide)).trans ht34_6
  have ht35_7 : ad7 35 = q6 := (hk7 35 (by decide)).trans hq6
  have hc7 : ∀ k, k < sg_58.length → ad7 k = ad k := fun k hk => (hk7 k (Nat.lt_of_lt_of_le hk (by decide))).trans (hc6 k hk)
  replace hz : Zb (stI (stI (stL σ 29 6 0) 29 7 0) 29 8 0) 37 := Zb.mono hz (by decide)
  refine n_putR (shs := sg_71) (shs' := sg_72) (ty := .array .boolean) (z := 36) X (iXc0 _) (k := 29) rfl rfl 11 (by decide) tyX0 tyX0_ok nmX0 rfl hin rfl (List.mem_cons_of_mem _ mw_175) (by decide +kernel) rfl rfl (by decide) ht29_7 hq7 rfl dX0_init_73 ?_
  refine n_aload_n X dX0_init_76 0 rfl ?_
  refine n_iconst X dX0_init_77 ?_
  refine n_arr (shs := sg_72) (shs' := sg_73) (atype := .long) (tg := 2) (n := 2) (ty := .long) (a0 := (2, .inr (.inl (fun _ => 0)))) X Aw_new (List.mem_cons_of_mem _ mw_156) rfl (fun _ => rfl) (by decide) (by decide) (by decide) (by decide) (cel_J hz) rfl (by decide) dX0_init_78 (fun ad8 q8 hk8 hq8 => ?_)
  have ht29_8 : ad8 29 = a0 := (hk8 29 (by decide)).trans ht29_7
  have ht1_8 : ad8 1 = a1 := (hk8 1 (by decide)).trans ht1_7
  have ht30_8 : ad8 30 = q1 := (hk8 30 (by decide)).trans ht30_7
  have ht31_8 : ad8 31 = q2 := (hk8 31 (by decide)).trans ht31_7
  have ht32_8 : ad8 32 = q3 := (hk8 32 (by decide)).trans ht32_7
  have ht33_8 : ad8 33 = q4 := (hk8 33 (by decide)).trans ht33_7
  have ht34_8 : ad8 34 = q5 := (hk8 34 (by decide)).trans ht34_7
  have ht35_8 : ad8 35 = q6 := (hk8 35 (by decide)).trans ht35_7
  have ht36_8 : ad8 36 = q7 := (hk8 36 (by decide)).trans hq7
  have hc8 : ∀ k, k < sg_58.length → ad8 k = ad k := fun k hk => (hk8 k (Nat.lt_of_lt_of_le hk (by decide))).trans (hc7 k hk)
  replace hz : Zb (stI (stI (stL σ 29 6 0) 29 7 0) 29 8 0) 38 := Zb.mono hz (by decide)
  refine n_putR (shs := sg_73) (shs' := sg_74) (ty := .array .long) (z := 37) X (iXc0 _) (k := 29) rfl rfl 12 (by decide) tyX0 tyX0_ok nmX0 rfl hin rfl (List.mem_cons_of_mem _ mw_177) (by decide +kernel) rfl rfl (by decide) ht29_8 hq8 rfl dX0_init_80 ?_
  refine n_aload_n X dX0_init_83 0 rfl ?_
  refine n_aload_n X dX0_init_84 1 rfl ?_
  refine n_putR (shs := sg_74) (shs' := sg_75) (ty := .object "SiteObjects$Program") (z := 1) X (iXc0 _) (k := 29) rfl rfl 0 (by decide) tyX0 tyX0_ok nmX0 rfl hin rfl (List.mem_cons_of_mem _ mw_158) (by decide +kernel) rfl rfl (by decide) ht29_8 ht1_8 rfl dX0_init_85 ?_
  refine n_aload_n X dX0_init_88 0 rfl ?_
  refine n_new (shs := sg_75) (shs' := sg_76) (fl := fn_X5) (ci := 5) X Aw_new (iXc5 _) tyX5 tyX5_ok (List.mem_cons_of_mem _ mw_111) (List.mem_cons_of_mem _ mw_112) (List.mem_cons_of_mem _ mw_5) rfl (fun _ => new_fs hz rfl fn_X5_ok) (by decide) (by decide) rfl (by decide) (by decide) dX0_init_89 (fun ad9 q9 hk9 hq9 => ?_)
  have ht29_9 : ad9 29 = a0 := (hk9 29 (by decide)).trans ht29_8
  have ht1_9 : ad9 1 = a1 := (hk9 1 (by decide)).trans ht1_8
  have ht30_9 : ad9 30 = q1 := (hk9 30 (by decide)).trans ht30_8
  have ht31_9 : ad9 31 = q2 := (hk9 31 (by decide)).trans ht31_8
  have ht32_9 : ad9 32 = q3 := (hk9 32 (by decide)).trans ht32_8
  have ht33_9 : ad9 33 = q4 := (hk9 33 (by decide)).trans ht33_8
  have ht34_9 : ad9 34 = q5 := (hk9 34 (by decide)).trans ht34_8
  have ht35_9 : ad9 35 = q6 := (hk9 35 (by decide)).trans ht35_8
  have ht36_9 : ad9 36 = q7 := (hk9 36 (by decide)).trans ht36_8
  have ht37_9 : ad9 37 = q8 := (hk9 37 (by decide)).trans hq8
  have hc9 : ∀ k, k < sg_58.length → ad9 k = ad k := fun k hk => (hk9 k (Nat.lt_of_lt_of_le hk (by decide))).trans (hc8 k hk)
  replace hz : Zb (stI (stI (stL σ 29 6 0) 29 7 0) 29 8 0) 39 := Zb.mono hz (by decide)
  refine n_dup X dX0_init_92 rfl ?_
  refine n_callN (shs := sg_76) (shs' := sg_84) X NIok hN Aw_new (ci_X5_init_38 hq9 hz hR) (rnN_IN X ⟨va_cnB 0 X.2.2.2.2.1 (tbG_good _ (tbG_cons mw_115)) rfl rfl rfl hN.2.1 (X.2.2.2.2.1 _ (List.mem_cons_of_mem _ mw_5)) hd_X5_init ⟨by decide, by decide⟩, rfl, X.2.2.2.2.1 _ (List.mem_cons_of_mem _ mw_114)⟩ rfl rfl (Nat.le_of_ble_eq_true rfl) dX0_init_93 ⟨by decide, by decide⟩) (fun ad10 hk10 => ?_)
  have ht29_10 : ad10 29 = a0 := (hk10 29 (by decide)).trans ht29_9
  have ht1_10 : ad10 1 = a1 := (hk10 1 (by decide)).trans ht1_9
  have ht30_10 : ad10 30 = q1 := (hk10 30 (by decide)).trans ht30_9
  have ht31_10 : ad10 31 = q2 := (hk10 31 (by decide)).trans ht31_9
  have ht32_10 : ad10 32 = q3 := (hk10 32 (by decide)).trans ht32_9
  have ht33_10 : ad10 33 = q4 := (hk10 33 (by decide)).trans ht33_9
  have ht34_10 : ad10 34 = q5 := (hk10 34 (by decide)).trans ht34_9
  have ht35_10 : ad10 35 = q6 := (hk10 35 (by decide)).trans ht35_9
  have ht36_10 : ad10 36 = q7 := (hk10 36 (by decide)).trans ht36_9
  have ht37_10 : ad10 37 = q8 := (hk10 37 (by decide)).trans ht37_9
  have ht38_10 : ad10 38 = q9 := (hk10 38 (by decide)).trans hq9
  have hc10 : ∀ k, k < sg_58.length → ad10 k = ad k := fun k hk => (hk10 k (Nat.lt_of_lt_of_le hk (by decide))).trans (hc9 k hk)
  replace hz : Zb (sm_X5_init_38 (stI (stI (stL σ 29 6 0) 29 7 0) 29 8 0)) 43 := ci_X5_init_38_z hz
  replace hR : Rg (sm_X5_init_38 (stI (stI (stL σ 29 6 0) 29 7 0) 29 8 0)) := ci_X5_init_38_r hR
  refine n_putR (shs := sg_84) (shs' := sg_85) (ty := .object "SiteObjects$Sites") (z := 38) X (iXc0 _) (k := 29) rfl rfl 1 (by decide) tyX0 tyX0_ok nmX0 rfl hin rfl (List.mem_cons_of_mem _ mw_159) (by decide +kernel) rfl rfl (by decide) ht29_10 ht38_10 rfl dX0_init_96 ?_
  exact n_vret X hr hlk hc10 dX0_init_99
def sg_86 : List Sh := [(0, 6, [(2, 1), (2, 15), (2, 29), (3, 0), (0, 0), (0, 0), (0, 0)]), (0, 3, [(0, 0), (0, 0), (0, 0), (0, 0), (2, 2), (2, 3), (2, 4), (2, 5), (2, 6), (2, 7), (2, 8), (2, 9), (2, 10), (2, 11), (2, 12), (2, 13), (2, 14)]), (1, 10, []), (1, 12, []), (1, 12, []), (1, 80, []), (1, 12, []), (1, 1080, []), (1, 90, []), (1, 90, []), (1, 90, []), (1, 90, []), (1, 90, []), (1, 90, []), (1, 90, []), (0, 0, [(2, 1), (2, 24), (2, 16), (2, 17), (2, 18), (2, 19), (1, 0), (0, 0), (0, 0), (2, 20), (2, 21), (2, 22), (2, 23)]), (2, 640, []), (2, 300, []), (2, 4, []), (2, 10, []), (1, 80, []), (1, 80, []), (3, 80, []), (2, 2, []), (0, 5, [(0, 0), (0, 0), (0, 0), (0, 0), (0, 0), (2, 25), (2, 26), (2, 27), (2, 28)]), (1, 80, []), (1, 80, []), (1, 60, []), (1, 60, []), (0, 0, [(2, 1), (2, 38), (2, 30), (2, 31), (2, 32), (2, 33), (1, 0), (0, 0), (0, 0), (2, 34), (2, 35), (2, 36), (2, 37)]), (2, 640, []), (2, 300, []), (2, 4, []), (2, 10, []), (1, 80, []), (1, 80, []), (3, 80, []), (2, 2, []), (0, 5, [(0, 0), (0, 0), (0, 0), (0, 0), (0, 0), (2, 39), (2, 40), (2, 41), (2, 42)]), (1, 80, []), (1, 80, []), (1, 60, []), (1, 60, [])]
theorem sg_86_len : sg_86.length = 43 := rfl
def sg_87 : List Sh := [(0, 6, [(2, 1), (2, 15), (2, 29), (3, 0), (0, 0), (0, 0), (0, 0)]), (0, 3, [(0, 0), (0, 0), (0, 0), (0, 0), (2, 2), (2, 3), (2, 4), (2, 5), (2, 6), (2, 7), (2, 8), (2, 9), (2, 10), (2, 11), (2, 12), (2, 13), (2, 14)]), (1, 10, []), (1, 12, []), (1, 12, []), (1, 80, []), (1, 12, []), (1, 1080, []), (1, 90, []), (1, 90, []), (1, 90, []), (1, 90, []), (1, 90, []), (1, 90, []), (1, 90, []), (0, 0, [(2, 1), (2, 24), (2, 16), (2, 17), (2, 18), (2, 19), (1, 0), (0, 0), (0, 0), (2, 20), (2, 21), (2, 22), (2, 23)]), (2, 640, []), (2, 300, []), (2, 4, []), (2, 10, []), (1, 80, []), (1, 80, []), (3, 80, []), (2, 2, []), (0, 5, [(0, 0), (0, 0), (0, 0), (0, 0), (0, 0), (2, 25), (2, 26), (2, 27), (2, 28)]), (1, 80, []), (1, 80, []), (1, 60, []), (1, 60, []), (0, 0, [(2, 1), (2, 38), (2, 30), (2, 31), (2, 32), (2, 33), (1, 0), (0, 0), (0, 0), (2, 34), (2, 35), (2, 36), (2, 37)]), (2, 640, []), (2, 300, []), (2, 4, []), (2, 10, []), (1, 80, []), (1, 80, []), (3, 80, []), (2, 2, []), (0, 5, [(0, 0), (0, 0), (0, 0), (0, 0), (0, 0), (2, 39), (2, 40), (2, 41), (2, 42)]), (1, 80, []), (1, 80, []), (1, 60, []), (1, 60, []), (0, 4, [(3, 0), (3, 0), (3, 0), (3, 0), (3, 0), (1, 0), (0, 0), (0, 0)])]
theorem sg_87_len : sg_87.length = 44 := rfl
def sg_88 : List Sh := [(0, 6, [(2, 1), (2, 15), (2, 29), (3, 0), (0, 0), (0, 0), (0, 0)]), (0, 3, [(0, 0), (0, 0), (0, 0), (0, 0), (2, 2), (2, 3), (2, 4), (2, 5), (2, 6), (2, 7), (2, 8), (2, 9), (2, 10), (2, 11), (2, 12), (2, 13), (2, 14)]), (1, 10, []), (1, 12, []), (1, 12, []), (1, 80, []), (1, 12, []), (1, 1080, []), (1, 90, []), (1, 90, []), (1, 90, []), (1, 90, []), (1, 90, []), (1, 90, []), (1, 90, []), (0, 0, [(2, 1), (2, 24), (2, 16), (2, 17), (2, 18), (2, 19), (1, 0), (0, 0), (0, 0), (2, 20), (2, 21), (2, 22), (2, 23)]), (2, 640, []), (2, 300, []), (2, 4, []), (2, 10, []), (1, 80, []), (1, 80, []), (3, 80, []), (2, 2, []), (0, 5, [(0, 0), (0, 0), (0, 0), (0, 0), (0, 0), (2, 25), (2, 26), (2, 27), (2, 28)]), (1, 80, []), (1, 80, []), (1, 60, []), (1, 60, []), (0, 0, [(2, 1), (2, 38), (2, 30), (2, 31), (2, 32), (2, 33), (1, 0), (0, 0), (0, 0), (2, 34), (2, 35), (2, 36), (2, 37)]), (2, 640, []), (2, 300, []), (2, 4, []), (2, 10, []), (1, 80, []), (1, 80, []), (3, 80, []), (2, 2, []), (0, 5, [(0, 0), (0, 0), (0, 0), (0, 0), (0, 0), (2, 39), (2, 40), (2, 41), (2, 42)]), (1, 80, []), (1, 80, []), (1, 60, []), (1, 60, []), (0, 4, [(3, 0), (3, 0), (3, 0), (3, 0), (3, 0), (1, 0), (0, 0), (0, 0)]), (0, 1, [(0, 0), (3, 0), (3, 0), (3, 0), (3, 0)])]
theorem sg_88_len : sg_88.length = 45 := rfl
def sg_89 : List Sh := [(0, 6, [(2, 1), (2, 15), (2, 29), (3, 0), (0, 0), (0, 0), (0, 0)]), (0, 3, [(0, 0), (0, 0), (0, 0), (0, 0), (2, 2), (2, 3), (2, 4), (2, 5), (2, 6), (2, 7), (2, 8), (2, 9), (2, 10), (2, 11), (2, 12), (2, 13), (2, 14)]), (1, 10, []), (1, 12, []), (1, 12, []), (1, 80, []), (1, 12, []), (1, 1080, []), (1, 90, []), (1, 90, []), (1, 90, []), (1, 90, []), (1, 90, []), (1, 90, []), (1, 90, []), (0, 0, [(2, 1), (2, 24), (2, 16), (2, 17), (2, 18), (2, 19), (1, 0), (0, 0), (0, 0), (2, 20), (2, 21), (2, 22), (2, 23)]), (2, 640, []), (2, 300, []), (2, 4, []), (2, 10, []), (1, 80, []), (1, 80, []), (3, 80, []), (2, 2, []), (0, 5, [(0, 0), (0, 0), (0, 0), (0, 0), (0, 0), (2, 25), (2, 26), (2, 27), (2, 28)]), (1, 80, []), (1, 80, []), (1, 60, []), (1, 60, []), (0, 0, [(2, 1), (2, 38), (2, 30), (2, 31), (2, 32), (2, 33), (1, 0), (0, 0), (0, 0), (2, 34), (2, 35), (2, 36), (2, 37)]), (2, 640, []), (2, 300, []), (2, 4, []), (2, 10, []), (1, 80, []), (1, 80, []), (3, 80, []), (2, 2, []), (0, 5, [(0, 0), (0, 0), (0, 0), (0, 0), (0, 0), (2, 39), (2, 40), (2, 41), (2, 42)]), (1, 80, []), (1, 80, []), (1, 60, []), (1, 60, []), (0, 4, [(3, 0), (3, 0), (3, 0), (3, 0), (3, 0), (1, 0), (0, 0), (0, 0)]), (0, 1, [(0, 0), (3, 0), (3, 0), (3, 0), (3, 0)]), (1, 25, [])]
theorem sg_89_len : sg_89.length = 46 := rfl
def sg_90 : List Sh := [(0, 6, [(2, 1), (2, 15), (2, 29), (3, 0), (0, 0), (0, 0), (0, 0)]), (0, 3, [(0, 0), (0, 0), (0, 0), (0, 0), (2, 2), (2, 3), (2, 4), (2, 5), (2, 6), (2, 7), (2, 8), (2, 9), (2, 10), (2, 11), (2, 12), (2, 13), (2, 14)]), (1, 10, []), (1, 12, []), (1, 12, []), (1, 80, []), (1, 12, []), (1, 1080, []), (1, 90, []), (1, 90, []), (1, 90, []), (1, 90, []), (1, 90, []), (1, 90, []), (1, 90, []), (0, 0, [(2, 1), (2, 24), (2, 16), (2, 17), (2, 18), (2, 19), (1, 0), (0, 0), (0, 0), (2, 20), (2, 21), (2, 22), (2, 23)]), (2, 640, []), (2, 300, []), (2, 4, []), (2, 10, []), (1, 80, []), (1, 80, []), (3, 80, []), (2, 2, []), (0, 5, [(0, 0), (0, 0), (0, 0), (0, 0), (0, 0), (2, 25), (2, 26), (2, 27), (2, 28)]), (1, 80, []), (1, 80, []), (1, 60, []), (1, 60, []), (0, 0, [(2, 1), (2, 38), (2, 30), (2, 31), (2, 32), (2, 33), (1, 0), (0, 0), (0, 0), (2, 34), (2, 35), (2, 36), (2, 37)]), (2, 640, []), (2, 300, []), (2, 4, []), (2, 10, []), (1, 80, []), (1, 80, []), (3, 80, []), (2, 2, []), (0, 5, [(0, 0), (0, 0), (0, 0), (0, 0), (0, 0), (2, 39), (2, 40), (2, 41), (2, 42)]), (1, 80, []), (1, 80, []), (1, 60, []), (1, 60, []), (0, 4, [(3, 0), (3, 0), (3, 0), (3, 0), (3, 0), (1, 0), (0, 0), (0, 0)]), (0, 1, [(0, 0), (2, 45), (3, 0), (3, 0), (3, 0)]), (1, 25, [])]
theorem sg_90_len : sg_90.length = 46 := rfl
def sg_91 : List Sh := [(0, 6, [(2, 1), (2, 15), (2, 29), (3, 0), (0, 0), (0, 0), (0, 0)]), (0, 3, [(0, 0), (0, 0), (0, 0), (0, 0), (2, 2), (2, 3), (2, 4), (2, 5), (2, 6), (2, 7), (2, 8), (2, 9), (2, 10), (2, 11), (2, 12), (2, 13), (2, 14)]), (1, 10, []), (1, 12, []), (1, 12, []), (1, 80, []), (1, 12, []), (1, 1080, []), (1, 90, []), (1, 90, []), (1, 90, []), (1, 90, []), (1, 90, []), (1, 90, []), (1, 90, []), (0, 0, [(2, 1), (2, 24), (2, 16), (2, 17), (2, 18), (2, 19), (1, 0), (0, 0), (0, 0), (2, 20), (2, 21), (2, 22), (2, 23)]), (2, 640, []), (2, 300, []), (2, 4, []), (2, 10, []), (1, 80, []), (1, 80, []), (3, 80, []), (2, 2, []), (0, 5, [(0, 0), (0, 0), (0, 0), (0, 0), (0, 0), (2, 25), (2, 26), (2, 27), (2, 28)]), (1, 80, []), (1, 80, []), (1, 60, []), (1, 60, []), (0, 0, [(2, 1), (2, 38), (2, 30), (2, 31), (2, 32), (2, 33), (1, 0), (0, 0), (0, 0), (2, 34), (2, 35), (2, 36), (2, 37)]), (2, 640, []), (2, 300, []), (2, 4, []), (2, 10, []), (1, 80, []), (1, 80, []), (3, 80, []), (2, 2, []), (0, 5, [(0, 0), (0, 0), (0, 0), (0, 0), (0, 0), (2, 39), (2, 40), (2, 41), (2, 42)]), (1, 80, []), (1, 80, []), (1, 60, []), (1, 60, []), (0, 4, [(3, 0), (3, 0), (3, 0), (3, 0), (3, 0), (1, 0), (0, 0), (0, 0)]), (0, 1, [(0, 0), (2, 45), (3, 0), (3, 0), (3, 0)]), (1, 25, []), (1, 25, [])]
theorem sg_91_len : sg_91.length = 47 := rfl
def sg_92 : List Sh := [(0, 6, [(2, 1), (2, 15), (2, 29), (3, 0), (0, 0), (0, 0), (0, 0)]), (0, 3, [(0, 0), (0, 0), (0, 0), (0, 0), (2, 2), (2, 3), (2, 4), (2, 5), (2, 6), (2, 7), (2, 8), (2, 9), (2, 10), (2, 11), (2, 12), (2, 13), (2, 14)]), (1, 10, []), (1, 12, []), (1, 12, []), (1, 80, []), (1, 12, []), (1, 1080, []), (1, 90, []), (1, 90, []), (1, 90, []), (1, 90, []), (1, 90, []), (1, 90, []), (1, 90, []), (0, 0, [(2, 1), (2, 24), (2, 16), (2, 17), (2, 18), (2, 19), (1, 0), (0, 0), (0, 0), (2, 20), (2, 21), (2, 22), (2, 23)]), (2, 640, []), (2, 300, []), (2, 4, []), (2, 10, []), (1, 80, []), (1, 80, []), (3, 80, []), (2, 2, []), (0, 5, [(0, 0), (0, 0), (0, 0), (0, 0), (0, 0), (2, 25), (2, 26), (2, 27), (2, 28)]), (1, 80, []), (1, 80, []), (1, 60, []), (1, 60, []), (0, 0, [(2, 1), (2, 38), (2, 30), (2, 31), (2, 32), (2, 33), (1, 0), (0, 0), (0, 0), (2, 34), (2, 35), (2, 36), (2, 37)]), (2, 640, []), (2, 300, []), (2, 4, []), (2, 10, []), (1, 80, []), (1, 80, []), (3, 80, []), (2, 2, []), (0, 5, [(0, 0), (0, 0), (0, 0), (0, 0), (0, 0), (2, 39), (2, 40), (2, 41), (2, 42)]), (1, 80, []), (1, 80, []), (1, 60, []), (1, 60, []), (0, 4, [(3, 0), (3, 0), (3, 0), (3, 0), (3, 0), (1, 0), (0, 0), (0, 0)]), (0, 1, [(0, 0), (2, 45), (2, 46), (3, 0), (3, 0)]), (1, 25, []), (1, 25, [])]
theorem sg_92_len : sg_92.length = 47 := rfl
def sg_93 : List Sh := [(0, 6, [(2, 1), (2, 15), (2, 29), (3, 0), (0, 0), (0, 0), (0, 0)]), (0, 3, [(0, 0), (0, 0), (0, 0), (0, 0), (2, 2), (2, 3), (2, 4), (2, 5), (2, 6), (2, 7), (2, 8), (2, 9), (2, 10), (2, 11), (2, 12), (2, 13), (2, 14)]), (1, 10, []), (1, 12, []), (1, 12, []), (1, 80, []), (1, 12, []), (1, 1080, []), (1, 90, []), (1, 90, []), (1, 90, []), (1, 90, []), (1, 90, []), (1, 90, []), (1, 90, []), (0, 0, [(2, 1), (2, 24), (2, 16), (2, 17), (2, 18), (2, 19), (1, 0), (0, 0), (0, 0), (2, 20), (2, 21), (2, 22), (2, 23)]), (2, 640, []), (2, 300, []), (2, 4, []), (2, 10, []), (1, 80, []), (1, 80, []), (3, 80, []), (2, 2, []), (0, 5, [(0, 0), (0, 0), (0, 0), (0, 0), (0, 0), (2, 25), (2, 26), (2, 27), (2, 28)]), (1, 80, []), (1, 80, []), (1, 60, []), (1, 60, []), (0, 0, [(2, 1), (2, 38), (2, 30), (2, 31), (2, 32), (2, 33), (1, 0), (0, 0), (0, 0), (2, 34), (2, 35), (2, 36), (2, 37)]), (2, 640, []), (2, 300, []), (2, 4, []), (2, 10, []), (1, 80, []), (1, 80, []), (3, 80, []), (2, 2, []), (0, 5, [(0, 0), (0, 0), (0, 0), (0, 0), (0, 0), (2, 39), (2, 40), (2, 41), (2, 42)]), (1, 80, []), (1, 80, []), (1, 60, []), (1, 60, []), (0, 4, [(3, 0), (3, 0), (3, 0), (3, 0), (3, 0), (1, 0), (0, 0), (0, 0)]), (0, 1, [(0, 0), (2, 45), (2, 46), (3, 0), (3, 0)]), (1, 25, []), (1, 25, []), (1, 25, [])]
theorem sg_93_len : sg_93.length = 48 := rfl
def sg_94 : List Sh := [(0, 6, [(2, 1), (2, 15), (2, 29), (3, 0), (0, 0), (0, 0), (0, 0)]), (0, 3, [(0, 0), (0, 0), (0, 0), (0, 0), (2, 2), (2, 3), (2, 4), (2, 5), (2, 6), (2, 7), (2, 8), (2, 9), (2, 10), (2, 11), (2, 12), (2, 13), (2, 14)]), (1, 10, []), (1, 12, []), (1, 12, []), (1, 80, []), (1, 12, []), (1, 1080, []), (1, 90, []), (1, 90, []), (1, 90, []), (1, 90, []), (1, 90, []), (1, 90, []), (1, 90, []), (0, 0, [(2, 1), (2, 24), (2, 16), (2, 17), (2, 18), (2, 19), (1, 0), (0, 0), (0, 0), (2, 20), (2, 21), (2, 22), (2, 23)]), (2, 640, []), (2, 300, []), (2, 4, []), (2, 10, []), (1, 80, []), (1, 80, []), (3, 80, []), (2, 2, []), (0, 5, [(0, 0), (0, 0), (0, 0), (0, 0), (0, 0), (2, 25), (2, 26), (2, 27), (2, 28)]), (1, 80, []), (1, 80, []), (1, 60, []), (1, 60, []), (0, 0, [(2, 1), (2, 38), (2, 30), (2, 31), (2, 32), (2, 33), (1, 0), (0, 0), (0, 0), (2, 34), (2, 35), (2, 36), (2, 37)]), (2, 640, []), (2, 300, []), (2, 4, []), (2, 10, []), (1, 80, []), (1, 80, []), (3, 80, []), (2, 2, []), (0, 5, [(0, 0), (0, 0), (0, 0), (0, 0), (0, 0), (2, 39), (2, 40), (2, 41), (2, 42)]), (1, 80, []), (1, 80, []), (1, 60, []), (1, 60, []), (0, 4, [(3, 0), (3, 0), (3, 0), (3, 0), (3, 0), (1, 0), (0, 0), (0, 0)]), (0, 1, [(0, 0), (2, 45), (2, 46), (2, 47), (3, 0)]), (1, 25, []), (1, 25, []), (1, 25, [])]
theorem sg_94_len : sg_94.length = 48 := rfl
def sg_95 : List Sh := [(0, 6, [(2, 1), (2, 15), (2, 29), (3, 0), (0, 0), (0, 0), (0, 0)]), (0, 3, [(0, 0), (0, 0), (0, 0), (0, 0), (2, 2), (2, 3), (2, 4), (2, 5), (2, 6), (2, 7), (2, 8), (2, 9), (2, 10), (2, 11), (2, 12), (2, 13), (2, 14)]), (1, 10, []), (1, 12, []), (1, 12, []), (1, 80, []), (1, 12, []), (1, 1080, []), (1, 90, []), (1, 90, []), (1, 90, []), (1, 90, []), (1, 90, []), (1, 90, []), (1, 90, []), (0, 0, [(2, 1), (2, 24), (2, 16), (2, 17), (2, 18), (2, 19), (1, 0), (0, 0), (0, 0), (2, 20), (2, 21), (2, 22), (2, 23)]), (2, 640, []), (2, 300, []), (2, 4, []), (2, 10, []), (1, 80, []), (1, 80, []), (3, 80, []), (2, 2, []), (0, 5, [(0, 0), (0, 0), (0, 0), (0, 0), (0, 0), (2, 25), (2, 26), (2, 27), (2, 28)]), (1, 80, []), (1, 80, []), (1, 60, []), (1, 60, []), (0, 0, [(2, 1), (2, 38), (2, 30), (2, 31), (2, 32), (2, 33), (1, 0), (0, 0), (0, 0), (2, 34), (2, 35), (2, 36), (2, 37)]), (2, 640, []), (2, 300, []), (2, 4, []), (2, 10, []), (1, 80, []), (1, 80, []), (3, 80, []), (2, 2, []), (0, 5, [(0, 0), (0, 0), (0, 0), (0, 0), (0, 0), (2, 39), (2, 40), (2, 41), (2, 42)]), (1, 80, []), (1, 80, []), (1, 60, []), (1, 60, []), (0, 4, [(3, 0), (3, 0), (3, 0), (3, 0), (3, 0), (1, 0), (0, 0), (0, 0)]), (0, 1, [(0, 0), (2, 45), (2, 46), (2, 47), (3, 0)]), (1, 25, []), (1, 25, []), (1, 25, []), (1, 150, [])]
theorem sg_95_len : sg_95.length = 49 := rfl
def sg_96 : List Sh := [(0, 6, [(2, 1), (2, 15), (2, 29), (3, 0), (0, 0), (0, 0), (0, 0)]), (0, 3, [(0, 0), (0, 0), (0, 0), (0, 0), (2, 2), (2, 3), (2, 4), (2, 5), (2, 6), (2, 7), (2, 8), (2, 9), (2, 10), (2, 11), (2, 12), (2, 13), (2, 14)]), (1, 10, []), (1, 12, []), (1, 12, []), (1, 80, []), (1, 12, []), (1, 1080, []), (1, 90, []), (1, 90, []), (1, 90, []), (1, 90, []), (1, 90, []), (1, 90, []), (1, 90, []), (0, 0, [(2, 1), (2, 24), (2, 16), (2, 17), (2, 18), (2, 19), (1, 0), (0, 0), (0, 0), (2, 20), (2, 21), (2, 22), (2, 23)]), (2, 640, []), (2, 300, []), (2, 4, []), (2, 10, []), (1, 80, []), (1, 80, []), (3, 80, []), (2, 2, []), (0, 5, [(0, 0), (0, 0), (0, 0), (0, 0), (0, 0), (2, 25), (2, 26), (2, 27), (2, 28)]), (1, 80, []), (1, 80, []), (1, 60, []), (1, 60, []), (0, 0, [(2, 1), (2, 38), (2, 30), (2, 31), (2, 32), (2, 33), (1, 0), (0, 0), (0, 0), (2, 34), (2, 35), (2, 36), (2, 37)]), (2, 640, []), (2, 300, []), (2, 4, []), (2, 10, []), (1, 80, []), (1, 80, []), (3, 80, []), (2, 2, []), (0, 5, [(0, 0), (0, 0), (0, 0), (0, 0), (0, 0), (2, 39), (2, 40), (2, 41), (2, 42)]), (1, 80, []), (1, 80, []), (1, 60, []), (1, 60, []), (0, 4, [(3, 0), (3, 0), (3, 0), (3, 0), (3, 0), (1, 0), (0, 0), (0, 0)]), (0, 1, [(0, 0), (2, 45), (2, 46), (2, 47), (2, 48)]), (1, 25, []), (1, 25, []), (1, 25, []), (1, 150, [])]
theorem sg_96_len : sg_96.length = 49 := rfl
def sm_X1_init_44 (σ : Mm) : Mm := (stI σ 44 0 0)
theorem ci_X1_init_44_z {σ : Mm} (h : Zb σ 45) : Zb (sm_X1_init_44 σ) 49 := by
  unfold sm_X1_init_44
  exact (Zb.stI (Zb.mono h (by decide)) (by decide))
theorem ci_X1_init_44_r {σ : Mm} (hR : Rg σ) : Rg (sm_X1_init_44 σ) := by
  unfold sm_X1_init_44
  exact (Rg.stI hR (by decide))
theorem hd_X1_init : yX1_init.cls ≠ "java/lang/invoke/MethodHandle" ∧ yX1_init.cls ≠ "java/lang/invoke/VarHandle" ∧ (parseMethodDescriptor yX1_init.desc).map (fun d => d.parameters.length) = some 0 := by decide +kernel
set_option maxRecDepth 100000 in
set_option maxHeartbeats 4000000 in
theorem ci_X1_init_44 {l : Launch} {D : va_G} {ca : Nat → ClassId} {ad : Nat → Nat} {σ : Mm} {a0 : Nat} (h0 : ad 44 = a0) (hz : Zb σ 45) (hR : Rg σ) : CtN l D vcl ca NI yX1_init (Cond.code yX1_init cX1_init 1 none :: tbG) { frames := 1, cells := 4, slots := 225, locals := 20 } [.ref a0] ad sg_88 σ sg_96 (sm_X1_init_44 σ) 4 225 := by
  refine ct_N (shs := sg_88) (shs' := sg_96) RX1 rfl (by decide) rfl rfl (Nat.le_of_ble_eq_true rfl) (fun p e s m below meth c X hN hr hlk hin => ?_)
  show GN p l e _ s m _ below meth c (MQ below (QcN D vcl ca ad sg_88.length sg_96 (stI σ 44 0 0) s.heap.size) _ s 4 225 _) 1 D vcl ca _ ad sg_88 σ 0 [(0, .ref a0)] [] 0 0
  refine n_aload_n X dX1_init_0 0 rfl ?_
  refine n_obj X (List.mem_cons_of_mem _ mw_216) (List.mem_cons_of_mem _ mw_18) (List.mem_cons_of_mem _ mw_19) dX1_init_1 (by decide) (Nat.le_of_ble_eq_true rfl) ?_
  refine n_aload_n X dX1_init_4 0 rfl ?_
  refine n_iconst X dX1_init_5 ?_
  refine n_putI (shs := sg_88) (ty := .int) X (iXc1 _) (k := 44) rfl rfl 0 (by decide) tyX1 tyX1_ok nmX1 rfl (List.mem_cons_of_mem _ mw_217) (by decide +kernel) (by decide) (by decide) rfl h0 dX1_init_6 ?_
  replace hz : Zb (stI σ 44 0 0) 45 := Zb.stI hz (by decide)
  replace hR : Rg (stI σ 44 0 0) := Rg.stI hR (by decide)
  refine n_aload_n X dX1_init_9 0 rfl ?_
  refine n_bipush X dX1_init_10 (by decide) ?_
  refine n_arr (shs := sg_88) (shs' := sg_89) (atype := .int) (tg := 1) (n := 25) (ty := .int) (a0 := (25, .inl (fun _ => 0))) X Aw_new (List.mem_cons_of_mem _ mw_104) rfl (fun _ => rfl) (by decide) (by decide) (by decide) (by decide) (cel_I hz) rfl (by decide) dX1_init_12 (fun ad1 q1 hk1 hq1 => ?_)
  have ht44_1 : ad1 44 = a0 := (hk1 44 (by decide)).trans h0
  have hc1 : ∀ k, k < sg_88.length → ad1 k = ad k := fun k hk => (hk1 k (Nat.lt_of_lt_of_le hk (by decide))).trans ((fun _ _ => rfl) k hk)
  replace hz : Zb (stI σ 44 0 0) 46 := Zb.mono hz (by decide)
  refine n_putR (shs := sg_89) (shs' := sg_90) (ty := .array .int) (z := 45) X (iXc1 _) (k := 44) rfl rfl 1 (by decide) tyX1 tyX1_ok nmX1 rfl hin rfl (List.mem_cons_of_mem _ mw_219) (by decide +kernel) rfl rfl (by decide) ht44_1 hq1 rfl dX1_init_14 ?_
  refine n_aload_n X dX1_init_17 0 rfl ?_
  refine n_bipush X dX1_init_18 (by decide) ?_
  refine n_arr (shs := sg_90) (shs' := sg_91) (atype := .int) (tg := 1) (n := 25) (ty := .int) (a0 := (25, .inl (fun _ => 0))) X Aw_new (List.mem_cons_of_mem _ mw_104) rfl (fun _ => rfl) (by decide) (by decide) (by decide) (by decide) (cel_I hz) rfl (by decide) dX1_init_20 (fun ad2 q2 hk2 hq2 => ?_)
  have ht44_2 : ad2 44 = a0 := (hk2 44 (by decide)).trans ht44_1
  have ht45_2 : ad2 45 = q1 := (hk2 45 (by decide)).trans hq1
  have hc2 : ∀ k, k < sg_88.length → ad2 k = ad k := fun k hk => (hk2 k (Nat.lt_of_lt_of_le hk (by decide))).trans (hc1 k hk)
  replace hz : Zb (stI σ 44 0 0) 47 := Zb.mono hz (by decide)
  refine n_putR (shs := sg_91) (shs' := sg_92) (ty := .array .int) (z := 46) X (iXc1 _) (k := 44) rfl rfl 2 (by decide) tyX1 tyX1_ok nmX1 rfl hin rfl (List.mem_cons_of_mem _ mw_220) (by decide +kernel) rfl rfl (by decide) ht44_2 hq2 rfl dX1_init_22 ?_
  refine n_aload_n X dX1_init_25 0 rfl ?_
  refine n_bipush X dX1_init_26 (by decide) ?_
  refine n_arr (shs := sg_92) (shs' := sg_93) (atype := .int) (tg := 1) (n := 25) (ty := .int) (a0 := (25, .inl (fun _ => 0))) X Aw_new (List.mem_cons_of_mem _ mw_104) rfl (fun _ => rfl) (by decide) (by decide) (by decide) (by decide) (cel_I hz) rfl (by decide) dX1_init_28 (fun ad3 q3 hk3 hq3 => ?_)
  have ht44_3 : ad3 44 = a0 := (hk3 44 (by decide)).trans ht44_2
  have ht45_3 : ad3 45 = q1 := (hk3 45 (by decide)).trans ht45_2
  have ht46_3 : ad3 46 = q2 := (hk3 46 (by decide)).trans hq2
  have hc3 : ∀ k, k < sg_88.length → ad3 k = ad k := fun k hk => (hk3 k (Nat.lt_of_lt_of_le hk (by decide))).trans (hc2 k hk)
  replace hz : Zb (stI σ 44 0 0) 48 := Zb.mono hz (by decide)
  refine n_putR (shs := sg_93) (shs' := sg_94) (ty := .array .int) (z := 47) X (iXc1 _) (k := 44) rfl rfl 3 (by decide) tyX1 tyX1_ok nmX1 rfl hin rfl (List.mem_cons_of_mem _ mw_221) (by decide +kernel) rfl rfl (by decide) ht44_3 hq3 rfl dX1_init_30 ?_
  refine n_aload_n X dX1_init_33 0 rfl ?_
  refine n_sipush X dX1_init_34 (by decide) ?_
  refine n_arr (shs := sg_94) (shs' := sg_95) (atype := .int) (tg := 1) (n := 150) (ty := .int) (a0 := (150, .inl (fun _ => 0))) X Aw_new (List.mem_cons_of_mem _ mw_104) rfl (fun _ => rfl) (by decide) (by decide) (by decide) (by decide) (cel_I hz) rfl (by decide) dX1_init_37 (fun ad4 q4 hk4 hq4 => ?_)
  have ht44_4 : ad4 44 = a0 := (hk4 44 (by decide)).trans ht44_3
  have ht45_4 : ad4 45 = q1 := (hk4 45 (by decide)).trans ht45_3
  have ht46_4 : ad4 46 = q2 := (hk4 46 (by decide)).trans ht46_3
  have ht47_4 : ad4 47 = q3 := (hk4 47 (by decide)).trans hq3
  have hc4 : ∀ k, k < sg_88.length → ad4 k = ad k := fun k hk => (hk4 k (Nat.lt_of_lt_of_le hk (by decide))).trans (hc3 k hk)
  replace hz : Zb (stI σ 44 0 0) 49 := Zb.mono hz (by decide)
  refine n_putR (shs := sg_95) (shs' := sg_96) (ty := .array .int) (z := 48) X (iXc1 _) (k := 44) rfl rfl 4 (by decide) tyX1 tyX1_ok nmX1 rfl hin rfl (List.mem_cons_of_mem _ mw_222) (by decide +kernel) rfl rfl (by decide) ht44_4 hq4 rfl dX1_init_39 ?_
  exact n_vret X hr hlk hc4 dX1_init_42
def sg_97 : List Sh := [(0, 6, [(2, 1), (2, 15), (2, 29), (3, 0), (0, 0), (0, 0), (0, 0)]), (0, 3, [(0, 0), (0, 0), (0, 0), (0, 0), (2, 2), (2, 3), (2, 4), (2, 5), (2, 6), (2, 7), (2, 8), (2, 9), (2, 10), (2, 11), (2, 12), (2, 13), (2, 14)]), (1, 10, []), (1, 12, []), (1, 12, []), (1, 80, []), (1, 12, []), (1, 1080, []), (1, 90, []), (1, 90, []), (1, 90, []), (1, 90, []), (1, 90, []), (1, 90, []), (1, 90, []), (0, 0, [(2, 1), (2, 24), (2, 16), (2, 17), (2, 18), (2, 19), (1, 0), (0, 0), (0, 0), (2, 20), (2, 21), (2, 22), (2, 23)]), (2, 640, []), (2, 300, []), (2, 4, []), (2, 10, []), (1, 80, []), (1, 80, []), (3, 80, []), (2, 2, []), (0, 5, [(0, 0), (0, 0), (0, 0), (0, 0), (0, 0), (2, 25), (2, 26), (2, 27), (2, 28)]), (1, 80, []), (1, 80, []), (1, 60, []), (1, 60, []), (0, 0, [(2, 1), (2, 38), (2, 30), (2, 31), (2, 32), (2, 33), (1, 0), (0, 0), (0, 0), (2, 34), (2, 35), (2, 36), (2, 37)]), (2, 640, []), (2, 300, []), (2, 4, []), (2, 10, []), (1, 80, []), (1, 80, []), (3, 80, []), (2, 2, []), (0, 5, [(0, 0), (0, 0), (0, 0), (0, 0), (0, 0), (2, 39), (2, 40), (2, 41), (2, 42)]), (1, 80, []), (1, 80, []), (1, 60, []), (1, 60, []), (0, 4, [(3, 0), (3, 0), (3, 0), (2, 44), (3, 0), (1, 0), (0, 0), (0, 0)]), (0, 1, [(0, 0), (2, 45), (2, 46), (2, 47), (2, 48)]), (1, 25, []), (1, 25, []), (1, 25, []), (1, 150, [])]
theorem sg_97_len : sg_97.length = 49 := rfl
def sg_98 : List Sh := [(0, 6, [(2, 1), (2, 15), (2, 29), (3, 0), (0, 0), (0, 0), (0, 0)]), (0, 3, [(0, 0), (0, 0), (0, 0), (0, 0), (2, 2), (2, 3), (2, 4), (2, 5), (2, 6), (2, 7), (2, 8), (2, 9), (2, 10), (2, 11), (2, 12), (2, 13), (2, 14)]), (1, 10, []), (1, 12, []), (1, 12, []), (1, 80, []), (1, 12, []), (1, 1080, []), (1, 90, []), (1, 90, []), (1, 90, []), (1, 90, []), (1, 90, []), (1, 90, []), (1, 90, []), (0, 0, [(2, 1), (2, 24), (2, 16), (2, 17), (2, 18), (2, 19), (1, 0), (0, 0), (0, 0), (2, 20), (2, 21), (2, 22), (2, 23)]), (2, 640, []), (2, 300, []), (2, 4, []), (2, 10, []), (1, 80, []), (1, 80, []), (3, 80, []), (2, 2, []), (0, 5, [(0, 0), (0, 0), (0, 0), (0, 0), (0, 0), (2, 25), (2, 26), (2, 27), (2, 28)]), (1, 80, []), (1, 80, []), (1, 60, []), (1, 60, []), (0, 0, [(2, 1), (2, 38), (2, 30), (2, 31), (2, 32), (2, 33), (1, 0), (0, 0), (0, 0), (2, 34), (2, 35), (2, 36), (2, 37)]), (2, 640, []), (2, 300, []), (2, 4, []), (2, 10, []), (1, 80, []), (1, 80, []), (3, 80, []), (2, 2, []), (0, 5, [(0, 0), (0, 0), (0, 0), (0, 0), (0, 0), (2, 39), (2, 40), (2, 41), (2, 42)]), (1, 80, []), (1, 80, []), (1, 60, []), (1, 60, []), (0, 4, [(3, 0), (3, 0), (3, 0), (2, 44), (3, 0), (1, 0), (0, 0), (0, 0)]), (0, 1, [(0, 0), (2, 45), (2, 46), (2, 47), (2, 48)]), (1, 25, []), (1, 25, []), (1, 25, []), (1, 150, []), (1, 9, [])]
theorem sg_98_len : sg_98.length = 50 := rfl
def sg_99 : List Sh := [(0, 6, [(2, 1), (2, 15), (2, 29), (3, 0), (0, 0), (0, 0), (0, 0)]), (0, 3, [(0, 0), (0, 0), (0, 0), (0, 0), (2, 2), (2, 3), (2, 4), (2, 5), (2, 6), (2, 7), (2, 8), (2, 9), (2, 10), (2, 11), (2, 12), (2, 13), (2, 14)]), (1, 10, []), (1, 12, []), (1, 12, []), (1, 80, []), (1, 12, []), (1, 1080, []), (1, 90, []), (1, 90, []), (1, 90, []), (1, 90, []), (1, 90, []), (1, 90, []), (1, 90, []), (0, 0, [(2, 1), (2, 24), (2, 16), (2, 17), (2, 18), (2, 19), (1, 0), (0, 0), (0, 0), (2, 20), (2, 21), (2, 22), (2, 23)]), (2, 640, []), (2, 300, []), (2, 4, []), (2, 10, []), (1, 80, []), (1, 80, []), (3, 80, []), (2, 2, []), (0, 5, [(0, 0), (0, 0), (0, 0), (0, 0), (0, 0), (2, 25), (2, 26), (2, 27), (2, 28)]), (1, 80, []), (1, 80, []), (1, 60, []), (1, 60, []), (0, 0, [(2, 1), (2, 38), (2, 30), (2, 31), (2, 32), (2, 33), (1, 0), (0, 0), (0, 0), (2, 34), (2, 35), (2, 36), (2, 37)]), (2, 640, []), (2, 300, []), (2, 4, []), (2, 10, []), (1, 80, []), (1, 80, []), (3, 80, []), (2, 2, []), (0, 5, [(0, 0), (0, 0), (0, 0), (0, 0), (0, 0), (2, 39), (2, 40), (2, 41), (2, 42)]), (1, 80, []), (1, 80, []), (1, 60, []), (1, 60, []), (0, 4, [(3, 0), (3, 0), (3, 0), (2, 44), (2, 49), (1, 0), (0, 0), (0, 0)]), (0, 1, [(0, 0), (2, 45), (2, 46), (2, 47), (2, 48)]), (1, 25, []), (1, 25, []), (1, 25, []), (1, 150, []), (1, 9, [])]
theorem sg_99_len : sg_99.length = 50 := rfl
def sg_100 : List Sh := [(0, 6, [(2, 1), (2, 15), (2, 29), (3, 0), (0, 0), (0, 0), (0, 0)]), (0, 3, [(0, 0), (0, 0), (0, 0), (0, 0), (2, 2), (2, 3), (2, 4), (2, 5), (2, 6), (2, 7), (2, 8), (2, 9), (2, 10), (2, 11), (2, 12), (2, 13), (2, 14)]), (1, 10, []), (1, 12, []), (1, 12, []), (1, 80, []), (1, 12, []), (1, 1080, []), (1, 90, []), (1, 90, []), (1, 90, []), (1, 90, []), (1, 90, []), (1, 90, []), (1, 90, []), (0, 0, [(2, 1), (2, 24), (2, 16), (2, 17), (2, 18), (2, 19), (1, 0), (0, 0), (0, 0), (2, 20), (2, 21), (2, 22), (2, 23)]), (2, 640, []), (2, 300, []), (2, 4, []), (2, 10, []), (1, 80, []), (1, 80, []), (3, 80, []), (2, 2, []), (0, 5, [(0, 0), (0, 0), (0, 0), (0, 0), (0, 0), (2, 25), (2, 26), (2, 27), (2, 28)]), (1, 80, []), (1, 80, []), (1, 60, []), (1, 60, []), (0, 0, [(2, 1), (2, 38), (2, 30), (2, 31), (2, 32), (2, 33), (1, 0), (0, 0), (0, 0), (2, 34), (2, 35), (2, 36), (2, 37)]), (2, 640, []), (2, 300, []), (2, 4, []), (2, 10, []), (1, 80, []), (1, 80, []), (3, 80, []), (2, 2, []), (0, 5, [(0, 0), (0, 0), (0, 0), (0, 0), (0, 0), (2, 39), (2, 40), (2, 41), (2, 42)]), (1, 80, []), (1, 80, []), (1, 60, []), (1, 60, []), (0, 4, [(2, 1), (3, 0), (3, 0), (2, 44), (2, 49), (1, 0), (0, 0), (0, 0)]), (0, 1, [(0, 0), (2, 45), (2, 46), (2, 47), (2, 48)]), (1, 25, []), (1, 25, []), (1, 25, []), (1, 150, []), (1, 9, [])]
theorem sg_100_len : sg_100.length = 50 := rfl
def sg_101 : List Sh := [(0, 6, [(2, 1), (2, 15), (2, 29), (3, 0), (0, 0), (0, 0), (0, 0)]), (0, 3, [(0, 0), (0, 0), (0, 0), (0, 0), (2, 2), (2, 3), (2, 4), (2, 5), (2, 6), (2, 7), (2, 8), (2, 9), (2, 10), (2, 11), (2, 12), (2, 13), (2, 14)]), (1, 10, []), (1, 12, []), (1, 12, []), (1, 80, []), (1, 12, []), (1, 1080, []), (1, 90, []), (1, 90, []), (1, 90, []), (1, 90, []), (1, 90, []), (1, 90, []), (1, 90, []), (0, 0, [(2, 1), (2, 24), (2, 16), (2, 17), (2, 18), (2, 19), (1, 0), (0, 0), (0, 0), (2, 20), (2, 21), (2, 22), (2, 23)]), (2, 640, []), (2, 300, []), (2, 4, []), (2, 10, []), (1, 80, []), (1, 80, []), (3, 80, []), (2, 2, []), (0, 5, [(0, 0), (0, 0), (0, 0), (0, 0), (0, 0), (2, 25), (2, 26), (2, 27), (2, 28)]), (1, 80, []), (1, 80, []), (1, 60, []), (1, 60, []), (0, 0, [(2, 1), (2, 38), (2, 30), (2, 31), (2, 32), (2, 33), (1, 0), (0, 0), (0, 0), (2, 34), (2, 35), (2, 36), (2, 37)]), (2, 640, []), (2, 300, []), (2, 4, []), (2, 10, []), (1, 80, []), (1, 80, []), (3, 80, []), (2, 2, []), (0, 5, [(0, 0), (0, 0), (0, 0), (0, 0), (0, 0), (2, 39), (2, 40), (2, 41), (2, 42)]), (1, 80, []), (1, 80, []), (1, 60, []), (1, 60, []), (0, 4, [(2, 1), (2, 15), (3, 0), (2, 44), (2, 49), (1, 0), (0, 0), (0, 0)]), (0, 1, [(0, 0), (2, 45), (2, 46), (2, 47), (2, 48)]), (1, 25, []), (1, 25, []), (1, 25, []), (1, 150, []), (1, 9, [])]
theorem sg_101_len : sg_101.length = 50 := rfl
def sg_102 : List Sh := [(0, 6, [(2, 1), (2, 15), (2, 29), (3, 0), (0, 0), (0, 0), (0, 0)]), (0, 3, [(0, 0), (0, 0), (0, 0), (0, 0), (2, 2), (2, 3), (2, 4), (2, 5), (2, 6), (2, 7), (2, 8), (2, 9), (2, 10), (2, 11), (2, 12), (2, 13), (2, 14)]), (1, 10, []), (1, 12, []), (1, 12, []), (1, 80, []), (1, 12, []), (1, 1080, []), (1, 90, []), (1, 90, []), (1, 90, []), (1, 90, []), (1, 90, []), (1, 90, []), (1, 90, []), (0, 0, [(2, 1), (2, 24), (2, 16), (2, 17), (2, 18), (2, 19), (1, 0), (0, 0), (0, 0), (2, 20), (2, 21), (2, 22), (2, 23)]), (2, 640, []), (2, 300, []), (2, 4, []), (2, 10, []), (1, 80, []), (1, 80, []), (3, 80, []), (2, 2, []), (0, 5, [(0, 0), (0, 0), (0, 0), (0, 0), (0, 0), (2, 25), (2, 26), (2, 27), (2, 28)]), (1, 80, []), (1, 80, []), (1, 60, []), (1, 60, []), (0, 0, [(2, 1), (2, 38), (2, 30), (2, 31), (2, 32), (2, 33), (1, 0), (0, 0), (0, 0), (2, 34), (2, 35), (2, 36), (2, 37)]), (2, 640, []), (2, 300, []), (2, 4, []), (2, 10, []), (1, 80, []), (1, 80, []), (3, 80, []), (2, 2, []), (0, 5, [(0, 0), (0, 0), (0, 0), (0, 0), (0, 0), (2, 39), (2, 40), (2, 41), (2, 42)]), (1, 80, []), (1, 80, []), (1, 60, []), (1, 60, []), (0, 4, [(2, 1), (2, 15), (3, 0), (2, 44), (2, 49), (1, 0), (0, 0), (0, 0)]), (0, 1, [(0, 0), (2, 45), (2, 46), (2, 47), (2, 48)]), (1, 25, []), (1, 25, []), (1, 25, []), (1, 150, []), (1, 9, []), (0, 2, [(3, 0), (0, 0), (3, 0), (3, 0), (3, 0), (3, 0), (3, 0)])]
theorem sg_102_len : sg_102.length = 51 := rfl
def sg_103 : List Sh := [(0, 6, [(2, 1), (2, 15), (2, 29), (3, 0), (0, 0), (0, 0), (0, 0)]), (0, 3, [(0, 0), (0, 0), (0, 0), (0, 0), (2, 2), (2, 3), (2, 4), (2, 5), (2, 6), (2, 7), (2, 8), (2, 9), (2, 10), (2, 11), (2, 12), (2, 13), (2, 14)]), (1, 10, []), (1, 12, []), (1, 12, []), (1, 80, []), (1, 12, []), (1, 1080, []), (1, 90, []), (1, 90, []), (1, 90, []), (1, 90, []), (1, 90, []), (1, 90, []), (1, 90, []), (0, 0, [(2, 1), (2, 24), (2, 16), (2, 17), (2, 18), (2, 19), (1, 0), (0, 0), (0, 0), (2, 20), (2, 21), (2, 22), (2, 23)]), (2, 640, []), (2, 300, []), (2, 4, []), (2, 10, []), (1, 80, []), (1, 80, []), (3, 80, []), (2, 2, []), (0, 5, [(0, 0), (0, 0), (0, 0), (0, 0), (0, 0), (2, 25), (2, 26), (2, 27), (2, 28)]), (1, 80, []), (1, 80, []), (1, 60, []), (1, 60, []), (0, 0, [(2, 1), (2, 38), (2, 30), (2, 31), (2, 32), (2, 33), (1, 0), (0, 0), (0, 0), (2, 34), (2, 35), (2, 36), (2, 37)]), (2, 640, []), (2, 300, []), (2, 4, []), (2, 10, []), (1, 80, []), (1, 80, []), (3, 80, []), (2, 2, []), (0, 5, [(0, 0), (0, 0), (0, 0), (0, 0), (0, 0), (2, 39), (2, 40), (2, 41), (2, 42)]), (1, 80, []), (1, 80, []), (1, 60, []), (1, 60, []), (0, 4, [(2, 1), (2, 15), (3, 0), (2, 44), (2, 49), (1, 0), (0, 0), (0, 0)]), (0, 1, [(0, 0), (2, 45), (2, 46), (2, 47), (2, 48)]), (1, 25, []), (1, 25, []), (1, 25, []), (1, 150, []), (1, 9, []), (0, 2, [(3, 0), (0, 0), (3, 0), (3, 0), (3, 0), (3, 0), (3, 0)]), (1, 300, [])]
theorem sg_103_len : sg_103.length = 52 := rfl
def sg_104 : List Sh := [(0, 6, [(2, 1), (2, 15), (2, 29), (3, 0), (0, 0), (0, 0), (0, 0)]), (0, 3, [(0, 0), (0, 0), (0, 0), (0, 0), (2, 2), (2, 3), (2, 4), (2, 5), (2, 6), (2, 7), (2, 8), (2, 9), (2, 10), (2, 11), (2, 12), (2, 13), (2, 14)]), (1, 10, []), (1, 12, []), (1, 12, []), (1, 80, []), (1, 12, []), (1, 1080, []), (1, 90, []), (1, 90, []), (1, 90, []), (1, 90, []), (1, 90, []), (1, 90, []), (1, 90, []), (0, 0, [(2, 1), (2, 24), (2, 16), (2, 17), (2, 18), (2, 19), (1, 0), (0, 0), (0, 0), (2, 20), (2, 21), (2, 22), (2, 23)]), (2, 640, []), (2, 300, []), (2, 4, []), (2, 10, []), (1, 80, []), (1, 80, []), (3, 80, []), (2, 2, []), (0, 5, [(0, 0), (0, 0), (0, 0), (0, 0), (0, 0), (2, 25), (2, 26), (2, 27), (2, 28)]), (1, 80, []), (1, 80, []), (1, 60, []), (1, 60, []), (0, 0, [(2, 1), (2, 38), (2, 30), (2, 31), (2, 32), (2, 33), (1, 0), (0, 0), (0, 0), (2, 34), (2, 35), (2, 36), (2, 37)]), (2, 640, []), (2, 300, []), (2, 4, []), (2, 10, []), (1, 80, []), (1, 80, []), (3, 80, []), (2, 2, []), (0, 5, [(0, 0), (0, 0), (0, 0), (0, 0), (0, 0), (2, 39), (2, 40), (2, 41), (2, 42)]), (1, 80, []), (1, 80, []), (1, 60, []), (1, 60, []), (0, 4, [(2, 1), (2, 15), (3, 0), (2, 44), (2, 49), (1, 0), (0, 0), (0, 0)]), (0, 1, [(0, 0), (2, 45), (2, 46), (2, 47), (2, 48)]), (1, 25, []), (1, 25, []), (1, 25, []), (1, 150, []), (1, 9, []), (0, 2, [(3, 0), (0, 0), (2, 51), (3, 0), (3, 0), (3, 0), (3, 0)]), (1, 300, [])]
theorem sg_104_len : sg_104.length = 52 := rfl
def sg_105 : List Sh := [(0, 6, [(2, 1), (2, 15), (2, 29), (3, 0), (0, 0), (0, 0), (0, 0)]), (0, 3, [(0, 0), (0, 0), (0, 0), (0, 0), (2, 2), (2, 3), (2, 4), (2, 5), (2, 6), (2, 7), (2, 8), (2, 9), (2, 10), (2, 11), (2, 12), (2, 13), (2, 14)]), (1, 10, []), (1, 12, []), (1, 12, []), (1, 80, []), (1, 12, []), (1, 1080, []), (1, 90, []), (1, 90, []), (1, 90, []), (1, 90, []), (1, 90, []), (1, 90, []), (1, 90, []), (0, 0, [(2, 1), (2, 24), (2, 16), (2, 17), (2, 18), (2, 19), (1, 0), (0, 0), (0, 0), (2, 20), (2, 21), (2, 22), (2, 23)]), (2, 640, []), (2, 300, []), (2, 4, []), (2, 10, []), (1, 80, []), (1, 80, []), (3, 80, []), (2, 2, []), (0, 5, [(0, 0), (0, 0), (0, 0), (0, 0), (0, 0), (2, 25), (2, 26), (2, 27), (2, 28)]), (1, 80, []), (1, 80, []), (1, 60, []), (1, 60, []), (0, 0, [(2, 1), (2, 38), (2, 30), (2, 31), (2, 32), (2, 33), (1, 0), (0, 0), (0, 0), (2, 34), (2, 35), (2, 36), (2, 37)]), (2, 640, []), (2, 300, []), (2, 4, []), (2, 10, []), (1, 80, []), (1, 80, []), (3, 80, []), (2, 2, []), (0, 5, [(0, 0), (0, 0), (0, 0), (0, 0), (0, 0), (2, 39), (2, 40), (2, 41), (2, 42)]), (1, 80, []), (1, 80, []), (1, 60, []), (1, 60, []), (0, 4, [(2, 1), (2, 15), (3, 0), (2, 44), (2, 49), (1, 0), (0, 0), (0, 0)]), (0, 1, [(0, 0), (2, 45), (2, 46), (2, 47), (2, 48)]), (1, 25, []), (1, 25, []), (1, 25, []), (1, 150, []), (1, 9, []), (0, 2, [(3, 0), (0, 0), (2, 51), (3, 0), (3, 0), (3, 0), (3, 0)]), (1, 300, []), (1, 300, [])]
theorem sg_105_len : sg_105.length = 53 := rfl
def sg_106 : List Sh := [(0, 6, [(2, 1), (2, 15), (2, 29), (3, 0), (0, 0), (0, 0), (0, 0)]), (0, 3, [(0, 0), (0, 0), (0, 0), (0, 0), (2, 2), (2, 3), (2, 4), (2, 5), (2, 6), (2, 7), (2, 8), (2, 9), (2, 10), (2, 11), (2, 12), (2, 13), (2, 14)]), (1, 10, []), (1, 12, []), (1, 12, []), (1, 80, []), (1, 12, []), (1, 1080, []), (1, 90, []), (1, 90, []), (1, 90, []), (1, 90, []), (1, 90, []), (1, 90, []), (1, 90, []), (0, 0, [(2, 1), (2, 24), (2, 16), (2, 17), (2, 18), (2, 19), (1, 0), (0, 0), (0, 0), (2, 20), (2, 21), (2, 22), (2, 23)]), (2, 640, []), (2, 300, []), (2, 4, []), (2, 10, []), (1, 80, []), (1, 80, []), (3, 80, []), (2, 2, []), (0, 5, [(0, 0), (0, 0), (0, 0), (0, 0), (0, 0), (2, 25), (2, 26), (2, 27), (2, 28)]), (1, 80, []), (1, 80, []), (1, 60, []), (1, 60, []), (0, 0, [(2, 1), (2, 38), (2, 30), (2, 31), (2, 32), (2, 33), (1, 0), (0, 0), (0, 0), (2, 34), (2, 35), (2, 36), (2, 37)]), (2, 640, []), (2, 300, []), (2, 4, []), (2, 10, []), (1, 80, []), (1, 80, []), (3, 80, []), (2, 2, []), (0, 5, [(0, 0), (0, 0), (0, 0), (0, 0), (0, 0), (2, 39), (2, 40), (2, 41), (2, 42)]), (1, 80, []), (1, 80, []), (1, 60, []), (1, 60, []), (0, 4, [(2, 1), (2, 15), (3, 0), (2, 44), (2, 49), (1, 0), (0, 0), (0, 0)]), (0, 1, [(0, 0), (2, 45), (2, 46), (2, 47), (2, 48)]), (1, 25, []), (1, 25, []), (1, 25, []), (1, 150, []), (1, 9, []), (0, 2, [(3, 0), (0, 0), (2, 51), (2, 52), (3, 0), (3, 0), (3, 0)]), (1, 300, []), (1, 300, [])]
theorem sg_106_len : sg_106.length = 53 := rfl
def sg_107 : List Sh := [(0, 6, [(2, 1), (2, 15), (2, 29), (3, 0), (0, 0), (0, 0), (0, 0)]), (0, 3, [(0, 0), (0, 0), (0, 0), (0, 0), (2, 2), (2, 3), (2, 4), (2, 5), (2, 6), (2, 7), (2, 8), (2, 9), (2, 10), (2, 11), (2, 12), (2, 13), (2, 14)]), (1, 10, []), (1, 12, []), (1, 12, []), (1, 80, []), (1, 12, []), (1, 1080, []), (1, 90, []), (1, 90, []), (1, 90, []), (1, 90, []), (1, 90, []), (1, 90, []), (1, 90, []), (0, 0, [(2, 1), (2, 24), (2, 16), (2, 17), (2, 18), (2, 19), (1, 0), (0, 0), (0, 0), (2, 20), (2, 21), (2, 22), (2, 23)]), (2, 640, []), (2, 300, []), (2, 4, []), (2, 10, []), (1, 80, []), (1, 80, []), (3, 80, []), (2, 2, []), (0, 5, [(0, 0), (0, 0), (0, 0), (0, 0), (0, 0), (2, 25), (2, 26), (2, 27), (2, 28)]), (1, 80, []), (1, 80, []), (1, 60, []), (1, 60, []), (0, 0, [(2, 1), (2, 38), (2, 30), (2, 31), (2, 32), (2, 33), (1, 0), (0, 0), (0, 0), (2, 34), (2, 35), (2, 36), (2, 37)]), (2, 640, []), (2, 300, []), (2, 4, []), (2, 10, []), (1, 80, []), (1, 80, []), (3, 80, []), (2, 2, []), (0, 5, [(0, 0), (0, 0), (0, 0), (0, 0), (0, 0), (2, 39), (2, 40), (2, 41), (2, 42)]), (1, 80, []), (1, 80, []), (1, 60, []), (1, 60, []), (0, 4, [(2, 1), (2, 15), (3, 0), (2, 44), (2, 49), (1, 0), (0, 0), (0, 0)]), (0, 1, [(0, 0), (2, 45), (2, 46), (2, 47), (2, 48)]), (1, 25, []), (1, 25, []), (1, 25, []), (1, 150, []), (1, 9, []), (0, 2, [(3, 0), (0, 0), (2, 51), (2, 52), (3, 0), (3, 0), (3, 0)]), (1, 300, []), (1, 300, []), (1, 300, [])]
theorem sg_107_len : sg_107.length = 54 := rfl
def sg_108 : List Sh := [(0, 6, [(2, 1), (2, 15), (2, 29), (3, 0), (0, 0), (0, 0), (0, 0)]), (0, 3, [(0, 0), (0, 0), (0, 0), (0, 0), (2, 2), (2, 3), (2, 4), (2, 5), (2, 6), (2, 7), (2, 8), (2, 9), (2, 10), (2, 11), (2, 12), (2, 13), (2, 14)]), (1, 10, []), (1, 12, []), (1, 12, []), (1, 80, []), (1, 12, []), (1, 1080, []), (1, 90, []), (1, 90, []), (1, 90, []), (1, 90, []), (1, 90, []), (1, 90, []), (1, 90, []), (0, 0, [(2, 1), (2, 24), (2, 16), (2, 17), (2, 18), (2, 19), (1, 0), (0, 0), (0, 0), (2, 20), (2, 21), (2, 22), (2, 23)]), (2, 640, []), (2, 300, []), (2, 4, []), (2, 10, []), (1, 80, []), (1, 80, []), (3, 80, []), (2, 2, []), (0, 5, [(0, 0), (0, 0), (0, 0), (0, 0), (0, 0), (2, 25), (2, 26), (2, 27), (2, 28)]), (1, 80, []), (1, 80, []), (1, 60, []), (1, 60, []), (0, 0, [(2, 1), (2, 38), (2, 30), (2, 31), (2, 32), (2, 33), (1, 0), (0, 0), (0, 0), (2, 34), (2, 35), (2, 36), (2, 37)]), (2, 640, []), (2, 300, []), (2, 4, []), (2, 10, []), (1, 80, []), (1, 80, []), (3, 80, []), (2, 2, []), (0, 5, [(0, 0), (0, 0), (0, 0), (0, 0), (0, 0), (2, 39), (2, 40), (2, 41), (2, 42)]), (1, 80, []), (1, 80, []), (1, 60, []), (1, 60, []), (0, 4, [(2, 1), (2, 15), (3, 0), (2, 44), (2, 49), (1, 0), (0, 0), (0, 0)]), (0, 1, [(0, 0), (2, 45), (2, 46), (2, 47), (2, 48)]), (1, 25, []), (1, 25, []), (1, 25, []), (1, 150, []), (1, 9, []), (0, 2, [(3, 0), (0, 0), (2, 51), (2, 52), (2, 53), (3, 0), (3, 0)]), (1, 300, []), (1, 300, []), (1, 300, [])]
theorem sg_108_len : sg_108.length = 54 := rfl
def sg_109 : List Sh := [(0, 6, [(2, 1), (2, 15), (2, 29), (3, 0), (0, 0), (0, 0), (0, 0)]), (0, 3, [(0, 0), (0, 0), (0, 0), (0, 0), (2, 2), (2, 3), (2, 4), (2, 5), (2, 6), (2, 7), (2, 8), (2, 9), (2, 10), (2, 11), (2, 12), (2, 13), (2, 14)]), (1, 10, []), (1, 12, []), (1, 12, []), (1, 80, []), (1, 12, []), (1, 1080, []), (1, 90, []), (1, 90, []), (1, 90, []), (1, 90, []), (1, 90, []), (1, 90, []), (1, 90, []), (0, 0, [(2, 1), (2, 24), (2, 16), (2, 17), (2, 18), (2, 19), (1, 0), (0, 0), (0, 0), (2, 20), (2, 21), (2, 22), (2, 23)]), (2, 640, []), (2, 300, []), (2, 4, []), (2, 10, []), (1, 80, []), (1, 80, []), (3, 80, []), (2, 2, []), (0, 5, [(0, 0), (0, 0), (0, 0), (0, 0), (0, 0), (2, 25), (2, 26), (2, 27), (2, 28)]), (1, 80, []), (1, 80, []), (1, 60, []), (1, 60, []), (0, 0, [(2, 1), (2, 38), (2, 30), (2, 31), (2, 32), (2, 33), (1, 0), (0, 0), (0, 0), (2, 34), (2, 35), (2, 36), (2, 37)]), (2, 640, []), (2, 300, []), (2, 4, []), (2, 10, []), (1, 80, []), (1, 80, []), (3, 80, []), (2, 2, []), (0, 5, [(0, 0), (0, 0), (0, 0), (0, 0), (0, 0), (2, 39), (2, 40), (2, 41), (2, 42)]), (1, 80, []), (1, 80, []), (1, 60, []), (1, 60, []), (0, 4, [(2, 1), (2, 15), (3, 0), (2, 44), (2, 49), (1, 0), (0, 0), (0, 0)]), (0, 1, [(0, 0), (2, 45), (2, 46), (2, 47), (2, 48)]), (1, 25, []), (1, 25, []), (1, 25, []), (1, 150, []), (1, 9, []), (0, 2, [(3, 0), (0, 0), (2, 51), (2, 52), (2, 53), (3, 0), (3, 0)]), (1, 300, []), (1, 300, []), (1, 300, []), (1, 1500, [])]
theorem sg_109_len : sg_109.length = 55 := rfl
def sg_110 : List Sh := [(0, 6, [(2, 1), (2, 15), (2, 29), (3, 0), (0, 0), (0, 0), (0, 0)]), (0, 3, [(0, 0), (0, 0), (0, 0), (0, 0), (2, 2), (2, 3), (2, 4), (2, 5), (2, 6), (2, 7), (2, 8), (2, 9), (2, 10), (2, 11), (2, 12), (2, 13), (2, 14)]), (1, 10, []), (1, 12, []), (1, 12, []), (1, 80, []), (1, 12, []), (1, 1080, []), (1, 90, []), (1, 90, []), (1, 90, []), (1, 90, []), (1, 90, []), (1, 90, []), (1, 90, []), (0, 0, [(2, 1), (2, 24), (2, 16), (2, 17), (2, 18), (2, 19), (1, 0), (0, 0), (0, 0), (2, 20), (2, 21), (2, 22), (2, 23)]), (2, 640, []), (2, 300, []), (2, 4, []), (2, 10, []), (1, 80, []), (1, 80, []), (3, 80, []), (2, 2, []), (0, 5, [(0, 0), (0, 0), (0, 0), (0, 0), (0, 0), (2, 25), (2, 26), (2, 27), (2, 28)]), (1, 80, []), (1, 80, []), (1, 60, []), (1, 60, []), (0, 0, [(2, 1), (2, 38), (2, 30), (2, 31), (2, 32), (2, 33), (1, 0), (0, 0), (0, 0), (2, 34), (2, 35), (2, 36), (2, 37)]), (2, 640, []), (2, 300, []), (2, 4, []), (2, 10, []), (1, 80, []), (1, 80, []), (3, 80, []), (2, 2, []), (0, 5, [(0, 0), (0, 0), (0, 0), (0, 0), (0, 0), (2, 39), (2, 40), (2, 41), (2, 42)]), (1, 80, []), (1, 80, []), (1, 60, []), (1, 60, []), (0, 4, [(2, 1), (2, 15), (3, 0), (2, 44), (2, 49), (1, 0), (0, 0), (0, 0)]), (0, 1, [(0, 0), (2, 45), (2, 46), (2, 47), (2, 48)]), (1, 25, []), (1, 25, []), (1, 25, []), (1, 150, []), (1, 9, []), (0, 2, [(3, 0), (0, 0), (2, 51), (2, 52), (2, 53), (2, 54), (3, 0)]), (1, 300, []), (1, 300, []), (1, 300, []), (1, 1500, [])]
theorem sg_110_len : sg_110.length = 55 := rfl
def sg_111 : List Sh := [(0, 6, [(2, 1), (2, 15), (2, 29), (3, 0), (0, 0), (0, 0), (0, 0)]), (0, 3, [(0, 0), (0, 0), (0, 0), (0, 0), (2, 2), (2, 3), (2, 4), (2, 5), (2, 6), (2, 7), (2, 8), (2, 9), (2, 10), (2, 11), (2, 12), (2, 13), (2, 14)]), (1, 10, []), (1, 12, []), (1, 12, []), (1, 80, []), (1, 12, []), (1, 1080, []), (1, 90, []), (1, 90, []), (1, 90, []), (1, 90, []), (1, 90, []), (1, 90, []), (1, 90, []), (0, 0, [(2, 1), (2, 24), (2, 16), (2, 17), (2, 18), (2, 19), (1, 0), (0, 0), (0, 0), (2, 20), (2, 21), (2, 22), (2, 23)]), (2, 640, []), (2, 300, []), (2, 4, []), (2, 10, []), (1, 80, []), (1, 80, []), (3, 80, []), (2, 2, []), (0, 5, [(0, 0), (0, 0), (0, 0), (0, 0), (0, 0), (2, 25), (2, 26), (2, 27), (2, 28)]), (1, 80, []), (1, 80, []), (1, 60, []), (1, 60, []), (0, 0, [(2, 1), (2, 38), (2, 30), (2, 31), (2, 32), (2, 33), (1, 0), (0, 0), (0, 0), (2, 34), (2, 35), (2, 36), (2, 37)]), (2, 640, []), (2, 300, []), (2, 4, []), (2, 10, []), (1, 80, []), (1, 80, []), (3, 80, []), (2, 2, []), (0, 5, [(0, 0), (0, 0), (0, 0), (0, 0), (0, 0), (2, 39), (2, 40), (2, 41), (2, 42)]), (1, 80, []), (1, 80, []), (1, 60, []), (1, 60, []), (0, 4, [(2, 1), (2, 15), (3, 0), (2, 44), (2, 49), (1, 0), (0, 0), (0, 0)]), (0, 1, [(0, 0), (2, 45), (2, 46), (2, 47), (2, 48)]), (1, 25, []), (1, 25, []), (1, 25, []), (1, 150, []), (1, 9, []), (0, 2, [(3, 0), (0, 0), (2, 51), (2, 52), (2, 53), (2, 54), (3, 0)]), (1, 300, []), (1, 300, []), (1, 300, []), (1, 1500, []), (1, 4, [])]
theorem sg_111_len : sg_111.length = 56 := rfl
def sg_112 : List Sh := [(0, 6, [(2, 1), (2, 15), (2, 29), (3, 0), (0, 0), (0, 0), (0, 0)]), (0, 3, [(0, 0), (0, 0), (0, 0), (0, 0), (2, 2), (2, 3), (2, 4), (2, 5), (2, 6), (2, 7), (2, 8), (2, 9), (2, 10), (2, 11), (2, 12), (2, 13), (2, 14)]), (1, 10, []), (1, 12, []), (1, 12, []), (1, 80, []), (1, 12, []), (1, 1080, []), (1, 90, []), (1, 90, []), (1, 90, []), (1, 90, []), (1, 90, []), (1, 90, []), (1, 90, []), (0, 0, [(2, 1), (2, 24), (2, 16), (2, 17), (2, 18), (2, 19), (1, 0), (0, 0), (0, 0), (2, 20), (2, 21), (2, 22), (2, 23)]), (2, 640, []), (2, 300, []), (2, 4, []), (2, 10, []), (1, 80, []), (1, 80, []), (3, 80, []), (2, 2, []), (0, 5, [(0, 0), (0, 0), (0, 0), (0, 0), (0, 0), (2, 25), (2, 26), (2, 27), (2, 28)]), (1, 80, []), (1, 80, []), (1, 60, []), (1, 60, []), (0, 0, [(2, 1), (2, 38), (2, 30), (2, 31), (2, 32), (2, 33), (1, 0), (0, 0), (0, 0), (2, 34), (2, 35), (2, 36), (2, 37)]), (2, 640, []), (2, 300, []), (2, 4, []), (2, 10, []), (1, 80, []), (1, 80, []), (3, 80, []), (2, 2, []), (0, 5, [(0, 0), (0, 0), (0, 0), (0, 0), (0, 0), (2, 39), (2, 40), (2, 41), (2, 42)]), (1, 80, []), (1, 80, []), (1, 60, []), (1, 60, []), (0, 4, [(2, 1), (2, 15), (3, 0), (2, 44), (2, 49), (1, 0), (0, 0), (0, 0)]), (0, 1, [(0, 0), (2, 45), (2, 46), (2, 47), (2, 48)]), (1, 25, []), (1, 25, []), (1, 25, []), (1, 150, []), (1, 9, []), (0, 2, [(3, 0), (0, 0), (2, 51), (2, 52), (2, 53), (2, 54), (2, 55)]), (1, 300, []), (1, 300, []), (1, 300, []), (1, 1500, []), (1, 4, [])]
theorem sg_112_len : sg_112.length = 56 := rfl
def sg_113 : List Sh := [(0, 6, [(2, 1), (2, 15), (2, 29), (3, 0), (0, 0), (0, 0), (0, 0)]), (0, 3, [(0, 0), (0, 0), (0, 0), (0, 0), (2, 2), (2, 3), (2, 4), (2, 5), (2, 6), (2, 7), (2, 8), (2, 9), (2, 10), (2, 11), (2, 12), (2, 13), (2, 14)]), (1, 10, []), (1, 12, []), (1, 12, []), (1, 80, []), (1, 12, []), (1, 1080, []), (1, 90, []), (1, 90, []), (1, 90, []), (1, 90, []), (1, 90, []), (1, 90, []), (1, 90, []), (0, 0, [(2, 1), (2, 24), (2, 16), (2, 17), (2, 18), (2, 19), (1, 0), (0, 0), (0, 0), (2, 20), (2, 21), (2, 22), (2, 23)]), (2, 640, []), (2, 300, []), (2, 4, []), (2, 10, []), (1, 80, []), (1, 80, []), (3, 80, []), (2, 2, []), (0, 5, [(0, 0), (0, 0), (0, 0), (0, 0), (0, 0), (2, 25), (2, 26), (2, 27), (2, 28)]), (1, 80, []), (1, 80, []), (1, 60, []), (1, 60, []), (0, 0, [(2, 1), (2, 38), (2, 30), (2, 31), (2, 32), (2, 33), (1, 0), (0, 0), (0, 0), (2, 34), (2, 35), (2, 36), (2, 37)]), (2, 640, []), (2, 300, []), (2, 4, []), (2, 10, []), (1, 80, []), (1, 80, []), (3, 80, []), (2, 2, []), (0, 5, [(0, 0), (0, 0), (0, 0), (0, 0), (0, 0), (2, 39), (2, 40), (2, 41), (2, 42)]), (1, 80, []), (1, 80, []), (1, 60, []), (1, 60, []), (0, 4, [(2, 1), (2, 15), (3, 0), (2, 44), (2, 49), (1, 0), (0, 0), (0, 0)]), (0, 1, [(0, 0), (2, 45), (2, 46), (2, 47), (2, 48)]), (1, 25, []), (1, 25, []), (1, 25, []), (1, 150, []), (1, 9, []), (0, 2, [(2, 1), (0, 0), (2, 51), (2, 52), (2, 53), (2, 54), (2, 55)]), (1, 300, []), (1, 300, []), (1, 300, []), (1, 1500, []), (1, 4, [])]
theorem sg_113_len : sg_113.length = 56 := rfl
def sm_X2_init_50 (σ : Mm) : Mm := (stI σ 50 1 0)
theorem ci_X2_init_50_z {σ : Mm} (h : Zb σ 51) : Zb (sm_X2_init_50 σ) 56 := by
  unfold sm_X2_init_50
  exact (Zb.stI (Zb.mono h (by decide)) (by decide))
theorem ci_X2_init_50_r {σ : Mm} (hR : Rg σ) : Rg (sm_X2_init_50 σ) := by
  unfold sm_X2_init_50
  exact (Rg.stI hR (by decide))
theorem hd_X2_init : yX2_init.cls ≠ "java/lang/invoke/MethodHandle" ∧ yX2_init.cls ≠ "java/lang/invoke/VarHandle" ∧ (parseMethodDescriptor yX2_init.desc).map (fun d => d.parameters.length) = some 1 := by decide +kernel
set_option maxRecDepth 100000 in
set_option maxHeartbeats 4000000 in
theorem ci_X2_init_50 {l : Launch} {D : va_G} {ca : Nat → ClassId} {ad : Nat → Nat} {σ : Mm} {a0 a1 : Nat} (h0 : ad 50 = a0) (h1 : ad 1 = a1) (hz : Zb σ 51) (hR : Rg σ) : CtN l D vcl ca NI yX2_init (Cond.code yX2_init cX2_init 2 none :: tbG) { frames := 1, cells := 5, slots := 2404, locals := 20 } [.ref a0, .ref a1] ad sg_102 σ sg_113 (sm_X2_init_50 σ) 5 2404 := by
  refine ct_N (shs := sg_102) (shs' := sg_113) RX2 rfl (by decide) rfl rfl (Nat.le_of_ble_eq_true rfl) (fun p e s m below meth c X hN hr hlk hin => ?_)
  show GN p l e _ s m _ below meth c (MQ below (QcN D vcl ca ad sg_102.length sg_113 (stI σ 50 1 0) s.heap.size) _ s 5 2404 _) 2 D vcl ca _ ad sg_102 σ 0 [(0, .ref a0), (1, .ref a1)] [] 0 0
  refine n_aload_n X dX2_init_0 0 rfl ?_
  refine n_obj X (List.mem_cons_of_mem _ mw_239) (List.mem_cons_of_mem _ mw_18) (List.mem_cons_of_mem _ mw_19) dX2_init_1 (by decide) (Nat.le_of_ble_eq_true rfl) ?_
  refine n_aload_n X dX2_init_4 0 rfl ?_
  refine n_iconst X dX2_init_5 ?_
  refine n_putI (shs := sg_102) (ty := .int) X (iXc2 _) (k := 50) rfl rfl 1 (by decide) tyX2 tyX2_ok nmX2 rfl (List.mem_cons_of_mem _ mw_241) (by decide +kernel) (by decide) (by decide) rfl h0 dX2_init_6 ?_
  replace hz : Zb (stI σ 50 1 0) 51 := Zb.stI hz (by decide)
  replace hR : Rg (stI σ 50 1 0) := Rg.stI hR (by decide)
  refine n_aload_n X dX2_init_9 0 rfl ?_
  refine n_sipush X dX2_init_10 (by decide) ?_
  refine n_arr (shs := sg_102) (shs' := sg_103) (atype := .int) (tg := 1) (n := 300) (ty := .int) (a0 := (300, .inl (fun _ => 0))) X Aw_new (List.mem_cons_of_mem _ mw_104) rfl (fun _ => rfl) (by decide) (by decide) (by decide) (by decide) (cel_I hz) rfl (by decide) dX2_init_13 (fun ad1 q1 hk1 hq1 => ?_)
  have ht50_1 : ad1 50 = a0 := (hk1 50 (by decide)).trans h0
  have ht1_1 : ad1 1 = a1 := (hk1 1 (by decide)).trans h1
  have hc1 : ∀ k, k < sg_102.length → ad1 k = ad k := fun k hk => (hk1 k (Nat.lt_of_lt_of_le hk (by decide))).trans ((fun _ _ => rfl) k hk)
  replace hz : Zb (stI σ 50 1 0) 52 := Zb.mono hz (by decide)
  refine n_putR (shs := sg_103) (shs' := sg_104) (ty := .array .int) (z := 51) X (iXc2 _) (k := 50) rfl rfl 2 (by decide) tyX2 tyX2_ok nmX2 rfl hin rfl (List.mem_cons_of_mem _ mw_244) (by decide +kernel) rfl rfl (by decide) ht50_1 hq1 rfl dX2_init_15 ?_
  refine n_aload_n X dX2_init_18 0 rfl ?_
  refine n_sipush X dX2_init_19 (by decide) ?_
  refine n_arr (shs := sg_104) (shs' := sg_105) (atype := .int) (tg := 1) (n := 300) (ty := .int) (a0 := (300, .inl (fun _ => 0))) X Aw_new (List.mem_cons_of_mem _ mw_104) rfl (fun _ => rfl) (by decide) (by decide) (by decide) (by decide) (cel_I hz) rfl (by decide) dX2_init_22 (fun ad2 q2 hk2 hq2 => ?_)
  have ht50_2 : ad2 50 = a0 := (hk2 50 (by decide)).trans ht50_1
  have ht1_2 : ad2 1 = a1 := (hk2 1 (by decide)).trans ht1_1
  have ht51_2 : ad2 51 = q1 := (hk2 51 (by decide)).trans hq1
  have hc2 : ∀ k, k < sg_102.length → ad2 k = ad k := fun k hk => (hk2 k (Nat.lt_of_lt_of_le hk (by decide))).trans (hc1 k hk)
  replace hz : Zb (stI σ 50 1 0) 53 := Zb.mono hz (by decide)
  refine n_putR (shs := sg_105) (shs' := sg_106) (ty := .array .int) (z := 52) X (iXc2 _) (k := 50) rfl rfl 3 (by decide) tyX2 tyX2_ok nmX2 rfl hin rfl (List.mem_cons_of_mem _ mw_246) (by decide +kernel) rfl rfl (by decide) ht50_2 hq2 rfl dX2_init_24 ?_
  refine n_aload_n X dX2_init_27 0 rfl ?_
  refine n_sipush X dX2_init_28 (by decide) ?_
  refine n_arr (shs := sg_106) (shs' := sg_107) (atype := .int) (tg := 1) (n := 300) (ty := .int) (a0 := (300, .inl (fun _ => 0))) X Aw_new (List.mem_cons_of_mem _ mw_104) rfl (fun _ => rfl) (by decide) (by decide) (by decide) (by decide) (cel_I hz) rfl (by decide) dX2_init_31 (fun ad3 q3 hk3 hq3 => ?_)
  have ht50_3 : ad3 50 = a0 := (hk3 50 (by decide)).trans ht50_2
  have ht1_3 : ad3 1 = a1 := (hk3 1 (by decide)).trans ht1_2
  have ht51_3 : ad3 51 = q1 := (hk3 51 (by decide)).trans ht51_2
  have ht52_3 : ad3 52 = q2 := (hk3 52 (by decide)).trans hq2
  have hc3 : ∀ k, k < sg_102.length → ad3 k = ad k := fun k hk => (hk3 k (Nat.lt_of_lt_of_le hk (by decide))).trans (hc2 k hk)
  replace hz : Zb (stI σ 50 1 0) 54 := Zb.mono hz (by decide)
  refine n_putR (shs := sg_107) (shs' := sg_108) (ty := .array .int) (z := 53) X (iXc2 _) (k := 50) rfl rfl 4 (by decide) tyX2 tyX2_ok nmX2 rfl hin rfl (List.mem_cons_of_mem _ mw_249) (by decide +kernel) rfl rfl (by decide) ht50_3 hq3 rfl dX2_init_33 ?_
  refine n_aload_n X dX2_init_36 0 rfl ?_
  refine n_sipush X dX2_init_37 (by decide) ?_
  refine n_arr (shs := sg_108) (shs' := sg_109) (atype := .int) (tg := 1) (n := 1500) (ty := .int) (a0 := (1500, .inl (fun _ => 0))) X Aw_new (List.mem_cons_of_mem _ mw_104) rfl (fun _ => rfl) (by decide) (by decide) (by decide) (by decide) (cel_I hz) rfl (by decide) dX2_init_40 (fun ad4 q4 hk4 hq4 => ?_)
  have ht50_4 : ad4 50 = a0 := (hk4 50 (by decide)).trans ht50_3
  have ht1_4 : ad4 1 = a1 := (hk4 1 (by decide)).trans ht1_3
  have ht51_4 : ad4 51 = q1 := (hk4 51 (by decide)).trans ht51_3
  have ht52_4 : ad4 52 = q2 := (hk4 52 (by decide)).trans ht52_3
  have ht53_4 : ad4 53 = q3 := (hk4 53 (by decide)).trans hq3
  have hc4 : ∀ k, k < sg_102.length → ad4 k = ad k := fun k hk => (hk4 k (Nat.lt_of_lt_of_le hk (by decide))).trans (hc3 k hk)
  replace hz : Zb (stI σ 50 1 0) 55 := Zb.mono hz (by decide)
  refine n_putR (shs := sg_109) (shs' := sg_110) (ty := .array .int) (z := 54) X (iXc2 _) (k := 50) rfl rfl 5 (by decide) tyX2 tyX2_ok nmX2 rfl hin rfl (List.mem_cons_of_mem _ mw_251) (by decide +kernel) rfl rfl (by decide) ht50_4 hq4 rfl dX2_init_42 ?_
  refine n_aload_n X dX2_init_45 0 rfl ?_
  refine n_iconst X dX2_init_46 ?_
  refine n_arr (shs := sg_110) (shs' := sg_111) (atype := .int) (tg := 1) (n := 4) (ty := .int) (a0 := (4, .inl (fun _ => 0))) X Aw_new (List.mem_cons_of_mem _ mw_104) rfl (fun _ => rfl) (by decide) (by decide) (by decide) (by decide) (cel_I hz) rfl (by decide) dX2_init_47 (fun ad5 q5 hk5 hq5 => ?_)
  have ht50_5 : ad5 50 = a0 := (hk5 50 (by decide)).trans ht50_4
  have ht1_5 : ad5 1 = a1 := (hk5 1 (by decide)).trans ht1_4
  have ht51_5 : ad5 51 = q1 := (hk5 51 (by decide)).trans ht51_4
  have ht52_5 : ad5 52 = q2 := (hk5 52 (by decide)).trans ht52_4
  have ht53_5 : ad5 53 = q3 := (hk5 53 (by decide)).trans ht53_4
  have ht54_5 : ad5 54 = q4 := (hk5 54 (by decide)).trans hq4
  have hc5 : ∀ k, k < sg_102.length → ad5 k = ad k := fun k hk => (hk5 k (Nat.lt_of_lt_of_le hk (by decide))).trans (hc4 k hk)
  replace hz : Zb (stI σ 50 1 0) 56 := Zb.mono hz (by decide)
  refine n_putR (shs := sg_111) (shs' := sg_112) (ty := .array .int) (z := 55) X (iXc2 _) (k := 50) rfl rfl 6 (by decide) tyX2 tyX2_ok nmX2 rfl hin rfl (List.mem_cons_of_mem _ mw_253) (by decide +kernel) rfl rfl (by decide) ht50_5 hq5 rfl dX2_init_49 ?_
  refine n_aload_n X dX2_init_52 0 rfl ?_
  refine n_aload_n X dX2_init_53 1 rfl ?_
  refine n_putR (shs := sg_112) (shs' := sg_113) (ty := .object "SiteObjects$Program") (z := 1) X (iXc2 _) (k := 50) rfl rfl 0 (by decide) tyX2 tyX2_ok nmX2 rfl hin rfl (List.mem_cons_of_mem _ mw_240) (by decide +kernel) rfl rfl (by decide) ht50_5 ht1_5 rfl dX2_init_54 ?_
  exact n_vret X hr hlk hc5 dX2_init_57
def sg_114 : List Sh := [(0, 6, [(2, 1), (2, 15), (2, 29), (3, 0), (0, 0), (0, 0), (0, 0)]), (0, 3, [(0, 0), (0, 0), (0, 0), (0, 0), (2, 2), (2, 3), (2, 4), (2, 5), (2, 6), (2, 7), (2, 8), (2, 9), (2, 10), (2, 11), (2, 12), (2, 13), (2, 14)]), (1, 10, []), (1, 12, []), (1, 12, []), (1, 80, []), (1, 12, []), (1, 1080, []), (1, 90, []), (1, 90, []), (1, 90, []), (1, 90, []), (1, 90, []), (1, 90, []), (1, 90, []), (0, 0, [(2, 1), (2, 24), (2, 16), (2, 17), (2, 18), (2, 19), (1, 0), (0, 0), (0, 0), (2, 20), (2, 21), (2, 22), (2, 23)]), (2, 640, []), (2, 300, []), (2, 4, []), (2, 10, []), (1, 80, []), (1, 80, []), (3, 80, []), (2, 2, []), (0, 5, [(0, 0), (0, 0), (0, 0), (0, 0), (0, 0), (2, 25), (2, 26), (2, 27), (2, 28)]), (1, 80, []), (1, 80, []), (1, 60, []), (1, 60, []), (0, 0, [(2, 1), (2, 38), (2, 30), (2, 31), (2, 32), (2, 33), (1, 0), (0, 0), (0, 0), (2, 34), (2, 35), (2, 36), (2, 37)]), (2, 640, []), (2, 300, []), (2, 4, []), (2, 10, []), (1, 80, []), (1, 80, []), (3, 80, []), (2, 2, []), (0, 5, [(0, 0), (0, 0), (0, 0), (0, 0), (0, 0), (2, 39), (2, 40), (2, 41), (2, 42)]), (1, 80, []), (1, 80, []), (1, 60, []), (1, 60, []), (0, 4, [(2, 1), (2, 15), (2, 50), (2, 44), (2, 49), (1, 0), (0, 0), (0, 0)]), (0, 1, [(0, 0), (2, 45), (2, 46), (2, 47), (2, 48)]), (1, 25, []), (1, 25, []), (1, 25, []), (1, 150, []), (1, 9, []), (0, 2, [(2, 1), (0, 0), (2, 51), (2, 52), (2, 53), (2, 54), (2, 55)]), (1, 300, []), (1, 300, []), (1, 300, []), (1, 1500, []), (1, 4, [])]
theorem sg_114_len : sg_114.length = 56 := rfl
def sm_X4_init_43 (σ : Mm) : Mm := (sm_X2_init_50 (stI (stI (stL (sm_X1_init_44 σ) 43 5 0) 43 6 0) 43 7 0))
theorem ci_X4_init_43_z {σ : Mm} (h : Zb σ 44) : Zb (sm_X4_init_43 σ) 56 := by
  unfold sm_X4_init_43
  exact (Zb.mono (ci_X2_init_50_z (Zb.stI (Zb.stI (Zb.stL (Zb.mono (ci_X1_init_44_z (Zb.mono h (by decide))) (by decide)) (by decide)) (by decide)) (by decide))) (by decide))
theorem ci_X4_init_43_r {σ : Mm} (hR : Rg σ) : Rg (sm_X4_init_43 σ) := by
  unfold sm_X4_init_43
  exact (ci_X2_init_50_r (Rg.stI (Rg.stI (Rg.stL (ci_X1_init_44_r hR)) (by decide)) (by decide)))
theorem hd_X4_init : yX4_init.cls ≠ "java/lang/invoke/MethodHandle" ∧ yX4_init.cls ≠ "java/lang/invoke/VarHandle" ∧ (parseMethodDescriptor yX4_init.desc).map (fun d => d.parameters.length) = some 2 := by decide +kernel
set_option maxRecDepth 100000 in
set_option maxHeartbeats 4000000 in
theorem ci_X4_init_43 {l : Launch} {D : va_G} {ca : Nat → ClassId} {ad : Nat → Nat} {σ : Mm} {a0 a1 a2 : Nat} (h0 : ad 43 = a0) (h1 : ad 1 = a1) (h2 : ad 15 = a2) (hz : Zb σ 44) (hR : Rg σ) : CtN l D vcl ca NI yX4_init (Cond.code yX4_init cX4_init 3 none :: tbG) { frames := 2, cells := 12, slots := 2650, locals := 41 } [.ref a0, .ref a1, .ref a2] ad sg_87 σ sg_114 (sm_X4_init_43 σ) 12 2650 := by
  refine ct_N (shs := sg_87) (shs' := sg_114) RX4 rfl (by decide) rfl rfl (Nat.le_of_ble_eq_true rfl) (fun p e s m below meth c X hN hr hlk hin => ?_)
  show GN p l e _ s m _ below meth c (MQ below (QcN D vcl ca ad sg_87.length sg_114 (sm_X2_init_50 (stI (stI (stL (sm_X1_init_44 σ) 43 5 0) 43 6 0) 43 7 0)) s.heap.size) _ s 12 2650 _) 3 D vcl ca _ ad sg_87 σ 0 [(0, .ref a0), (1, .ref a1), (2, .ref a2)] [] 0 0
  refine n_aload_n X dX4_init_0 0 rfl ?_
  refine n_obj X (List.mem_cons_of_mem _ mw_210) (List.mem_cons_of_mem _ mw_18) (List.mem_cons_of_mem _ mw_19) dX4_init_1 (by decide) (Nat.le_of_ble_eq_true rfl) ?_
  refine n_aload_n X dX4_init_4 0 rfl ?_
  refine n_new (shs := sg_87) (shs' := sg_88) (fl := fn_X1) (ci := 1) X Aw_new (iXc1 _) tyX1 tyX1_ok (List.mem_cons_of_mem _ mw_211) (List.mem_cons_of_mem _ mw_212) (List.mem_cons_of_mem _ mw_7) rfl (fun _ => new_fs hz rfl fn_X1_ok) (by decide) (by decide) rfl (by decide) (by decide) dX4_init_5 (fun ad1 q1 hk1 hq1 => ?_)
  have ht43_1 : ad1 43 = a0 := (hk1 43 (by decide)).trans h0
  have ht1_1 : ad1 1 = a1 := (hk1 1 (by decide)).trans h1
  have ht15_1 : ad1 15 = a2 := (hk1 15 (by decide)).trans h2
  have hc1 : ∀ k, k < sg_87.length → ad1 k = ad k := fun k hk => (hk1 k (Nat.lt_of_lt_of_le hk (by decide))).trans ((fun _ _ => rfl) k hk)
  replace hz : Zb σ 45 := Zb.mono hz (by decide)
  refine n_dup X dX4_init_8 rfl ?_
  refine n_callN (shs := sg_88) (shs' := sg_96) X NIok hN Aw_new (ci_X1_init_44 hq1 hz hR) (rnN_IN X ⟨va_cnB 0 X.2.2.2.2.1 (tbG_good _ (tbG_cons mw_215)) rfl rfl rfl hN.2.2 (X.2.2.2.2.1 _ (List.mem_cons_of_mem _ mw_7)) hd_X1_init ⟨by decide, by decide⟩, rfl, X.2.2.2.2.1 _ (List.mem_cons_of_mem _ mw_214)⟩ rfl rfl (Nat.le_of_ble_eq_true rfl) dX4_init_9 ⟨by decide, by decide⟩) (fun ad2 hk2 => ?_)
  have ht43_2 : ad2 43 = a0 := (hk2 43 (by decide)).trans ht43_1
  have ht1_2 : ad2 1 = a1 := (hk2 1 (by decide)).trans ht1_1
  have ht15_2 : ad2 15 = a2 := (hk2 15 (by decide)).trans ht15_1
  have ht44_2 : ad2 44 = q1 := (hk2 44 (by decide)).trans hq1
  have hc2 : ∀ k, k < sg_87.length → ad2 k = ad k := fun k hk => (hk2 k (Nat.lt_of_lt_of_le hk (by decide))).trans (hc1 k hk)
  replace hz : Zb (sm_X1_init_44 σ) 49 := ci_X1_init_44_z hz
  replace hR : Rg (sm_X1_init_44 σ) := ci_X1_init_44_r hR
  refine n_putR (shs := sg_96) (shs' := sg_97) (ty := .object "SiteObjects$Frames") (z := 44) X (iXc4 _) (k := 43) rfl rfl 3 (by decide) tyX4 tyX4_ok nmX4 rfl hin rfl (List.mem_cons_of_mem _ mw_274) (by decide +kernel) rfl rfl (by decide) ht43_2 ht44_2 rfl dX4_init_12 ?_
  refine n_aload_n X dX4_init_15 0 rfl ?_
  refine n_bipush X dX4_init_16 (by decide) ?_
  refine n_arr (shs := sg_97) (shs' := sg_98) (atype := .int) (tg := 1) (n := 9) (ty := .int) (a0 := (9, .inl (fun _ => 0))) X Aw_new (List.mem_cons_of_mem _ mw_104) rfl (fun _ => rfl) (by decide) (by decide) (by decide) (by decide) (cel_I hz) rfl (by decide) dX4_init_18 (fun ad3 q3 hk3 hq3 => ?_)
  have ht43_3 : ad3 43 = a0 := (hk3 43 (by decide)).trans ht43_2
  have ht1_3 : ad3 1 = a1 := (hk3 1 (by decide)).trans ht1_2
  have ht15_3 : ad3 15 = a2 := (hk3 15 (by decide)).trans ht15_2
  have ht44_3 : ad3 44 = q1 := (hk3 44 (by decide)).trans ht44_2
  have hc3 : ∀ k, k < sg_87.length → ad3 k = ad k := fun k hk => (hk3 k (Nat.lt_of_lt_of_le hk (by decide))).trans (hc2 k hk)
  replace hz : Zb (sm_X1_init_44 σ) 50 := Zb.mono hz (by decide)
  refine n_putR (shs := sg_98) (shs' := sg_99) (ty := .array .int) (z := 49) X (iXc4 _) (k := 43) rfl rfl 4 (by decide) tyX4 tyX4_ok nmX4 rfl hin rfl (List.mem_cons_of_mem _ mw_275) (by decide +kernel) rfl rfl (by decide) ht43_3 hq3 rfl dX4_init_20 ?_
  refine n_aload_n X dX4_init_23 0 rfl ?_
  refine n_lconst X 0 dX4_init_24 rfl ?_
  refine n_putL (shs := sg_99) X (iXc4 _) (k := 43) rfl rfl 5 (by decide) tyX4 tyX4_ok nmX4 rfl (List.mem_cons_of_mem _ mw_277) (by decide +kernel) rfl ht43_3 dX4_init_25 ?_
  replace hz : Zb (stL (sm_X1_init_44 σ) 43 5 0) 50 := Zb.stL hz (by decide)
  replace hR : Rg (stL (sm_X1_init_44 σ) 43 5 0) := Rg.stL hR
  refine n_aload_n X dX4_init_28 0 rfl ?_
  refine n_iconst X dX4_init_29 ?_
  refine n_putI (shs := sg_99) (ty := .int) X (iXc4 _) (k := 43) rfl rfl 6 (by decide) tyX4 tyX4_ok nmX4 rfl (List.mem_cons_of_mem _ mw_278) (by decide +kernel) (by decide) (by decide) rfl ht43_3 dX4_init_30 ?_
  replace hz : Zb (stI (stL (sm_X1_init_44 σ) 43 5 0) 43 6 0) 50 := Zb.stI hz (by decide)
  replace hR : Rg (stI (stL (sm_X1_init_44 σ) 43 5 0) 43 6 0) := Rg.stI hR (by decide)
  refine n_aload_n X dX4_init_33 0 rfl ?_
  refine n_iconst X dX4_init_34 ?_
  refine n_putI (shs := sg_99) (ty := .boolean) X (iXc4 _) (k := 43) rfl rfl 7 (by decide) tyX4 tyX4_ok nmX4 rfl (List.mem_cons_of_mem _ mw_279) (by decide +kernel) (by decide) (by decide) rfl ht43_3 dX4_init_35 ?_
  replace hz : Zb (stI (stI (stL (sm_X1_init_44 σ) 43 5 0) 43 6 0) 43 7 0) 50 := Zb.stI hz (by decide)
  replace hR : Rg (stI (stI (stL (sm_X1_init_44 σ) 43 5 0) 43 6 0) 43 7 0) := Rg.stI hR (by decide)
  refine n_aload_n X dX4_init_38 0 rfl ?_
  refine n_aload_n X dX4_init_39 1 rfl ?_
  refine n_putR (shs := sg_99) (shs' := sg_100) (ty := .object "SiteObjects$Program") (z := 1) X (iXc4 _) (k := 43) rfl rfl 0 (by decide) tyX4 tyX4_ok nmX4 rfl hin rfl (List.mem_cons_of_mem _ mw_270) (by decide +kernel) rfl rfl (by decide) ht43_3 ht1_3 rfl dX4_init_40 ?_
  refine n_aload_n X dX4_init_43 0 rfl ?_
  refine n_aload_n X dX4_init_44 2 rfl ?_
  refine n_putR (shs := sg_100) (shs' := sg_101) (ty := .object "SiteObjects$Finding") (z := 15) X (iXc4 _) (k := 43) rfl rfl 1 (by decide) tyX4 tyX4_ok nmX4 rfl hin rfl (List.mem_cons_of_mem _ mw_271) (by decide +kernel) rfl rfl (by decide) ht43_3 ht15_3 rfl dX4_init_45 ?_
  refine n_aload_n X dX4_init_48 0 rfl ?_
  refine n_new (shs := sg_101) (shs' := sg_102) (fl := fn_X2) (ci := 2) X Aw_new (iXc2 _) tyX2 tyX2_ok (List.mem_cons_of_mem _ mw_234) (List.mem_cons_of_mem _ mw_235) (List.mem_cons_of_mem _ mw_8) rfl (fun _ => new_fs hz rfl fn_X2_ok) (by decide) (by decide) rfl (by decide) (by decide) dX4_init_49 (fun ad4 q4 hk4 hq4 => ?_)
  have ht43_4 : ad4 43 = a0 := (hk4 43 (by decide)).trans ht43_3
  have ht1_4 : ad4 1 = a1 := (hk4 1 (by decide)).trans ht1_3
  have ht15_4 : ad4 15 = a2 := (hk4 15 (by decide)).trans ht15_3
  have ht44_4 : ad4 44 = q1 := (hk4 44 (by decide)).trans ht44_3
  have ht49_4 : ad4 49 = q3 := (hk4 49 (by decide)).trans hq3
  have hc4 : ∀ k, k < sg_87.length → ad4 k = ad k := fun k hk => (hk4 k (Nat.lt_of_lt_of_le hk (by decide))).trans (hc3 k hk)
  replace hz : Zb (stI (stI (stL (sm_X1_init_44 σ) 43 5 0) 43 6 0) 43 7 0) 51 := Zb.mono hz (by decide)
  refine n_dup X dX4_init_52 rfl ?_
  refine n_aload_n X dX4_init_53 1 rfl ?_
  refine n_callN (shs := sg_102) (shs' := sg_113) X NIok hN Aw_new (ci_X2_init_50 hq4 ht1_4 hz hR) (rnN_I X (cwI 1 X.2.2.2.2.1 (tbG_good _ (tbG_cons mw_238)) rfl rfl rfl (X.2.2.2.2.1 _ (List.mem_cons_of_mem _ mw_8)) (X.2.2.2.2.1 _ (List.mem_cons_of_mem _ mw_236)) (X.2.2.2.2.1 _ (List.mem_cons_of_mem _ mw_237)) rfl hd_X2_init ⟨by decide, by decide⟩) rfl rfl (Nat.le_of_ble_eq_true rfl) dX4_init_54 ⟨by decide, by decide⟩) (fun ad5 hk5 => ?_)
  have ht43_5 : ad5 43 = a0 := (hk5 43 (by decide)).trans ht43_4
  have ht1_5 : ad5 1 = a1 := (hk5 1 (by decide)).trans ht1_4
  have ht15_5 : ad5 15 = a2 := (hk5 15 (by decide)).trans ht15_4
  have ht44_5 : ad5 44 = q1 := (hk5 44 (by decide)).trans ht44_4
  have ht49_5 : ad5 49 = q3 := (hk5 49 (by decide)).trans ht49_4
  have ht50_5 : ad5 50 = q4 := (hk5 50 (by decide)).trans hq4
  have hc5 : ∀ k, k < sg_87.length → ad5 k = ad k := fun k hk => (hk5 k (Nat.lt_of_lt_of_le hk (by decide))).trans (hc4 k hk)
  replace hz : Zb (sm_X2_init_50 (stI (stI (stL (sm_X1_init_44 σ) 43 5 0) 43 6 0) 43 7 0)) 56 := ci_X2_init_50_z hz
  replace hR : Rg (sm_X2_init_50 (stI (stI (stL (sm_X1_init_44 σ) 43 5 0) 43 6 0) 43 7 0)) := ci_X2_init_50_r hR
  refine n_putR (shs := sg_113) (shs' := sg_114) (ty := .object "SiteObjects$Heap") (z := 50) X (iXc4 _) (k := 43) rfl rfl 2 (by decide) tyX4 tyX4_ok nmX4 rfl hin rfl (List.mem_cons_of_mem _ mw_272) (by decide +kernel) rfl rfl (by decide) ht43_5 ht50_5 rfl dX4_init_57 ?_
  exact n_vret X hr hlk hc5 dX4_init_60
def sg_115 : List Sh := [(0, 6, [(2, 1), (2, 15), (2, 29), (2, 43), (0, 0), (0, 0), (0, 0)]), (0, 3, [(0, 0), (0, 0), (0, 0), (0, 0), (2, 2), (2, 3), (2, 4), (2, 5), (2, 6), (2, 7), (2, 8), (2, 9), (2, 10), (2, 11), (2, 12), (2, 13), (2, 14)]), (1, 10, []), (1, 12, []), (1, 12, []), (1, 80, []), (1, 12, []), (1, 1080, []), (1, 90, []), (1, 90, []), (1, 90, []), (1, 90, []), (1, 90, []), (1, 90, []), (1, 90, []), (0, 0, [(2, 1), (2, 24), (2, 16), (2, 17), (2, 18), (2, 19), (1, 0), (0, 0), (0, 0), (2, 20), (2, 21), (2, 22), (2, 23)]), (2, 640, []), (2, 300, []), (2, 4, []), (2, 10, []), (1, 80, []), (1, 80, []), (3, 80, []), (2, 2, []), (0, 5, [(0, 0), (0, 0), (0, 0), (0, 0), (0, 0), (2, 25), (2, 26), (2, 27), (2, 28)]), (1, 80, []), (1, 80, []), (1, 60, []), (1, 60, []), (0, 0, [(2, 1), (2, 38), (2, 30), (2, 31), (2, 32), (2, 33), (1, 0), (0, 0), (0, 0), (2, 34), (2, 35), (2, 36), (2, 37)]), (2, 640, []), (2, 300, []), (2, 4, []), (2, 10, []), (1, 80, []), (1, 80, []), (3, 80, []), (2, 2, []), (0, 5, [(0, 0), (0, 0), (0, 0), (0, 0), (0, 0), (2, 39), (2, 40), (2, 41), (2, 42)]), (1, 80, []), (1, 80, []), (1, 60, []), (1, 60, []), (0, 4, [(2, 1), (2, 15), (2, 50), (2, 44), (2, 49), (1, 0), (0, 0), (0, 0)]), (0, 1, [(0, 0), (2, 45), (2, 46), (2, 47), (2, 48)]), (1, 25, []), (1, 25, []), (1, 25, []), (1, 150, []), (1, 9, []), (0, 2, [(2, 1), (0, 0), (2, 51), (2, 52), (2, 53), (2, 54), (2, 55)]), (1, 300, []), (1, 300, []), (1, 300, []), (1, 1500, []), (1, 4, [])]
theorem sg_115_len : sg_115.length = 56 := rfl
def sm_X6_init (σ : Mm) : Mm := (sm_X4_init_43 (sm_X0_init_29 (sm_X0_init_15 (sm_X3_init_1 σ))))
theorem ci_X6_init_z {σ : Mm} (h : Zb σ 1) : Zb (sm_X6_init σ) 56 := by
  unfold sm_X6_init
  exact (Zb.mono (ci_X4_init_43_z (Zb.mono (ci_X0_init_29_z (Zb.mono (ci_X0_init_15_z (Zb.mono (ci_X3_init_1_z (Zb.mono h (by decide))) (by decide))) (by decide))) (by decide))) (by decide))
theorem ci_X6_init_r {σ : Mm} (hR : Rg σ) : Rg (sm_X6_init σ) := by
  unfold sm_X6_init
  exact (ci_X4_init_43_r (ci_X0_init_29_r (ci_X0_init_15_r (ci_X3_init_1_r hR))))
theorem hd_X6_init : yX6_init.cls ≠ "java/lang/invoke/MethodHandle" ∧ yX6_init.cls ≠ "java/lang/invoke/VarHandle" ∧ (parseMethodDescriptor yX6_init.desc).map (fun d => d.parameters.length) = some 0 := by decide +kernel
set_option maxRecDepth 100000 in
set_option maxHeartbeats 4000000 in
theorem ci_X6_init {l : Launch} {D : va_G} {ca : Nat → ClassId} {ad : Nat → Nat} {σ : Mm} {a0 : Nat} (h0 : ad 0 = a0) (hz : Zb σ 1) (hR : Rg σ) : CtN l D vcl ca NI yX6_init (Cond.code yX6_init cX6_init 1 none :: tbG) { frames := 3, cells := 55, slots := 7507, locals := 63 } [.ref a0] ad sg_0 σ sg_115 (sm_X6_init σ) 55 7507 := by
  refine ct_N (shs := sg_0) (shs' := sg_115) RX6 rfl (by decide) rfl rfl (Nat.le_of_ble_eq_true rfl) (fun p e s m below meth c X hN hr hlk hin => ?_)
  show GN p l e _ s m _ below meth c (MQ below (QcN D vcl ca ad sg_0.length sg_115 (sm_X4_init_43 (sm_X0_init_29 (sm_X0_init_15 (sm_X3_init_1 σ)))) s.heap.size) _ s 55 7507 _) 1 D vcl ca _ ad sg_0 σ 0 [(0, .ref a0)] [] 0 0
  refine n_aload_n X dX6_init_0 0 rfl ?_
  refine n_obj X (List.mem_cons_of_mem _ mw_17) (List.mem_cons_of_mem _ mw_18) (List.mem_cons_of_mem _ mw_19) dX6_init_1 (by decide) (Nat.le_of_ble_eq_true rfl) ?_
  refine n_aload_n X dX6_init_4 0 rfl ?_
  refine n_new (shs := sg_0) (shs' := sg_1) (fl := fn_X3) (ci := 3) X Aw_new (iXc3 _) tyX3 tyX3_ok (List.mem_cons_of_mem _ mw_20) (List.mem_cons_of_mem _ mw_21) (List.mem_cons_of_mem _ mw_2) rfl (fun _ => new_fs hz rfl fn_X3_ok) (by decide) (by decide) rfl (by decide) (by decide) dX6_init_5 (fun ad1 q1 hk1 hq1 => ?_)
  have ht0_1 : ad1 0 = a0 := (hk1 0 (by decide)).trans h0
  have hc1 : ∀ k, k < sg_0.length → ad1 k = ad k := fun k hk => (hk1 k (Nat.lt_of_lt_of_le hk (by decide))).trans ((fun _ _ => rfl) k hk)
  replace hz : Zb σ 2 := Zb.mono hz (by decide)
  refine n_dup X dX6_init_8 rfl ?_
  refine n_callN (shs := sg_1) (shs' := sg_27) X NIok hN Aw_new (ci_X3_init_1 hq1 hz hR) (rnN_I X (cwI 0 X.2.2.2.2.1 (tbG_good _ (tbG_cons mw_24)) rfl rfl rfl (X.2.2.2.2.1 _ (List.mem_cons_of_mem _ mw_2)) (X.2.2.2.2.1 _ (List.mem_cons_of_mem _ mw_22)) (X.2.2.2.2.1 _ (List.mem_cons_of_mem _ mw_23)) rfl hd_X3_init ⟨by decide, by decide⟩) rfl rfl (Nat.le_of_ble_eq_true rfl) dX6_init_9 ⟨by decide, by decide⟩) (fun ad2 hk2 => ?_)
  have ht0_2 : ad2 0 = a0 := (hk2 0 (by decide)).trans ht0_1
  have ht1_2 : ad2 1 = q1 := (hk2 1 (by decide)).trans hq1
  have hc2 : ∀ k, k < sg_0.length → ad2 k = ad k := fun k hk => (hk2 k (Nat.lt_of_lt_of_le hk (by decide))).trans (hc1 k hk)
  replace hz : Zb (sm_X3_init_1 σ) 15 := ci_X3_init_1_z hz
  replace hR : Rg (sm_X3_init_1 σ) := ci_X3_init_1_r hR
  refine n_putR (shs := sg_27) (shs' := sg_28) (ty := .object "SiteObjects$Program") (z := 1) X (iXc6 _) (k := 0) rfl rfl 0 (by decide) tyX6 tyX6_ok nmX6 rfl hin rfl (List.mem_cons_of_mem _ mw_297) (by decide +kernel) rfl rfl (by decide) ht0_2 ht1_2 rfl dX6_init_12 ?_
  refine n_aload_n X dX6_init_15 0 rfl ?_
  refine n_new (shs := sg_28) (shs' := sg_29) (fl := fn_X0) (ci := 0) X Aw_new (iXc0 _) tyX0 tyX0_ok (List.mem_cons_of_mem _ mw_105) (List.mem_cons_of_mem _ mw_106) (List.mem_cons_of_mem _ mw_4) rfl (fun _ => new_fs hz rfl fn_X0_ok) (by decide) (by decide) rfl (by decide) (by decide) dX6_init_16 (fun ad3 q3 hk3 hq3 => ?_)
  have ht0_3 : ad3 0 = a0 := (hk3 0 (by decide)).trans ht0_2
  have ht1_3 : ad3 1 = q1 := (hk3 1 (by decide)).trans ht1_2
  have hc3 : ∀ k, k < sg_0.length → ad3 k = ad k := fun k hk => (hk3 k (Nat.lt_of_lt_of_le hk (by decide))).trans (hc2 k hk)
  replace hz : Zb (sm_X3_init_1 σ) 16 := Zb.mono hz (by decide)
  refine n_dup X dX6_init_19 rfl ?_
  refine n_aload_n X dX6_init_20 0 rfl ?_
  refine n_getR (shs := sg_29) (z := 1) X (iXc6 _) (k := 0) rfl rfl 0 (by decide) rfl (List.mem_cons_of_mem _ mw_297) ht0_3 ht1_3 dX6_init_21 ?_
  refine n_callN (shs := sg_29) (shs' := sg_56) X NIok hN Aw_new (ci_X0_init_15 hq3 ht1_3 hz hR) (rnN_I X (cwI 1 X.2.2.2.2.1 (tbG_good _ (tbG_cons mw_109)) rfl rfl rfl (X.2.2.2.2.1 _ (List.mem_cons_of_mem _ mw_4)) (X.2.2.2.2.1 _ (List.mem_cons_of_mem _ mw_107)) (X.2.2.2.2.1 _ (List.mem_cons_of_mem _ mw_108)) rfl hd_X0_init ⟨by decide, by decide⟩) rfl rfl (Nat.le_of_ble_eq_true rfl) dX6_init_24 ⟨by decide, by decide⟩) (fun ad4 hk4 => ?_)
  have ht0_4 : ad4 0 = a0 := (hk4 0 (by decide)).trans ht0_3
  have ht1_4 : ad4 1 = q1 := (hk4 1 (by decide)).trans ht1_3
  have ht15_4 : ad4 15 = q3 := (hk4 15 (by decide)).trans hq3
  have hc4 : ∀ k, k < sg_0.length → ad4 k = ad k := fun k hk => (hk4 k (Nat.lt_of_lt_of_le hk (by decide))).trans (hc3 k hk)
  replace hz : Zb (sm_X0_init_15 (sm_X3_init_1 σ)) 29 := ci_X0_init_15_z hz
  replace hR : Rg (sm_X0_init_15 (sm_X3_init_1 σ)) := ci_X0_init_15_r hR
  refine n_putR (shs := sg_56) (shs' := sg_57) (ty := .object "SiteObjects$Finding") (z := 15) X (iXc6 _) (k := 0) rfl rfl 1 (by decide) tyX6 tyX6_ok nmX6 rfl hin rfl (List.mem_cons_of_mem _ mw_298) (by decide +kernel) rfl rfl (by decide) ht0_4 ht15_4 rfl dX6_init_27 ?_
  refine n_aload_n X dX6_init_30 0 rfl ?_
  refine n_new (shs := sg_57) (shs' := sg_58) (fl := fn_X0) (ci := 0) X Aw_new (iXc0 _) tyX0 tyX0_ok (List.mem_cons_of_mem _ mw_105) (List.mem_cons_of_mem _ mw_106) (List.mem_cons_of_mem _ mw_4) rfl (fun _ => new_fs hz rfl fn_X0_ok) (by decide) (by decide) rfl (by decide) (by decide) dX6_init_31 (fun ad5 q5 hk5 hq5 => ?_)
  have ht0_5 : ad5 0 = a0 := (hk5 0 (by decide)).trans ht0_4
  have ht1_5 : ad5 1 = q1 := (hk5 1 (by decide)).trans ht1_4
  have ht15_5 : ad5 15 = q3 := (hk5 15 (by decide)).trans ht15_4
  have hc5 : ∀ k, k < sg_0.length → ad5 k = ad k := fun k hk => (hk5 k (Nat.lt_of_lt_of_le hk (by decide))).trans (hc4 k hk)
  replace hz : Zb (sm_X0_init_15 (sm_X3_init_1 σ)) 30 := Zb.mono hz (by decide)
  refine n_dup X dX6_init_34 rfl ?_
  refine n_aload_n X dX6_init_35 0 rfl ?_
  refine n_getR (shs := sg_58) (z := 1) X (iXc6 _) (k := 0) rfl rfl 0 (by decide) rfl (List.mem_cons_of_mem _ mw_297) ht0_5 ht1_5 dX6_init_36 ?_
  refine n_callN (shs := sg_58) (shs' := sg_85) X NIok hN Aw_new (ci_X0_init_29 hq5 ht1_5 hz hR) (rnN_I X (cwI 1 X.2.2.2.2.1 (tbG_good _ (tbG_cons mw_109)) rfl rfl rfl (X.2.2.2.2.1 _ (List.mem_cons_of_mem _ mw_4)) (X.2.2.2.2.1 _ (List.mem_cons_of_mem _ mw_107)) (X.2.2.2.2.1 _ (List.mem_cons_of_mem _ mw_108)) rfl hd_X0_init ⟨by decide, by decide⟩) rfl rfl (Nat.le_of_ble_eq_true rfl) dX6_init_39 ⟨by decide, by decide⟩) (fun ad6 hk6 => ?_)
  have ht0_6 : ad6 0 = a0 := (hk6 0 (by decide)).trans ht0_5
  have ht1_6 : ad6 1 = q1 := (hk6 1 (by decide)).trans ht1_5
  have ht15_6 : ad6 15 = q3 := (hk6 15 (by decide)).trans ht15_5
  have ht29_6 : ad6 29 = q5 := (hk6 29 (by decide)).trans hq5
  have hc6 : ∀ k, k < sg_0.length → ad6 k = ad k := fun k hk => (hk6 k (Nat.lt_of_lt_of_le hk (by decide))).trans (hc5 k hk)
  replace hz : Zb (sm_X0_init_29 (sm_X0_init_15 (sm_X3_init_1 σ))) 43 := ci_X0_init_29_z hz
  replace hR : Rg (sm_X0_init_29 (sm_X0_init_15 (sm_X3_init_1 σ))) := ci_X0_init_29_r hR
  refine n_putR (shs := sg_85) (shs' := sg_86) (ty := .object "SiteObjects$Finding") (z := 29) X (iXc6 _) (k := 0) rfl rfl 2 (by decide) tyX6 tyX6_ok nmX6 rfl hin rfl (List.mem_cons_of_mem _ mw_299) (by decide +kernel) rfl rfl (by decide) ht0_6 ht29_6 rfl dX6_init_42 ?_
  refine n_aload_n X dX6_init_45 0 rfl ?_
  refine n_new (shs := sg_86) (shs' := sg_87) (fl := fn_X4) (ci := 4) X Aw_new (iXc4 _) tyX4 tyX4_ok (List.mem_cons_of_mem _ mw_205) (List.mem_cons_of_mem _ mw_206) (List.mem_cons_of_mem _ mw_6) rfl (fun _ => new_fs hz rfl fn_X4_ok) (by decide) (by decide) rfl (by decide) (by decide) dX6_init_46 (fun ad7 q7 hk7 hq7 => ?_)
  have ht0_7 : ad7 0 = a0 := (hk7 0 (by decide)).trans ht0_6
  have ht1_7 : ad7 1 = q1 := (hk7 1 (by decide)).trans ht1_6
  have ht15_7 : ad7 15 = q3 := (hk7 15 (by decide)).trans ht15_6
  have ht29_7 : ad7 29 = q5 := (hk7 29 (by decide)).trans ht29_6
  have hc7 : ∀ k, k < sg_0.length → ad7 k = ad k := fun k hk => (hk7 k (Nat.lt_of_lt_of_le hk (by decide))).trans (hc6 k hk)
  replace hz : Zb (sm_X0_init_29 (sm_X0_init_15 (sm_X3_init_1 σ))) 44 := Zb.mono hz (by decide)
  refine n_dup X dX6_init_49 rfl ?_
  refine n_aload_n X dX6_init_50 0 rfl ?_
  refine n_getR (shs := sg_87) (z := 1) X (iXc6 _) (k := 0) rfl rfl 0 (by decide) rfl (List.mem_cons_of_mem _ mw_297) ht0_7 ht1_7 dX6_init_51 ?_
  refine n_aload_n X dX6_init_54 0 rfl ?_
  refine n_getR (shs := sg_87) (z := 15) X (iXc6 _) (k := 0) rfl rfl 1 (by decide) rfl (List.mem_cons_of_mem _ mw_298) ht0_7 ht15_7 dX6_init_55 ?_
  refine n_callN (shs := sg_87) (shs' := sg_114) X NIok hN Aw_new (ci_X4_init_43 hq7 ht1_7 ht15_7 hz hR) (rnN_I X (cwI 2 X.2.2.2.2.1 (tbG_good _ (tbG_cons mw_209)) rfl rfl rfl (X.2.2.2.2.1 _ (List.mem_cons_of_mem _ mw_6)) (X.2.2.2.2.1 _ (List.mem_cons_of_mem _ mw_207)) (X.2.2.2.2.1 _ (List.mem_cons_of_mem _ mw_208)) rfl hd_X4_init ⟨by decide, by decide⟩) rfl rfl (Nat.le_of_ble_eq_true rfl) dX6_init_58 ⟨by decide, by decide⟩) (fun ad8 hk8 => ?_)
  have ht0_8 : ad8 0 = a0 := (hk8 0 (by decide)).trans ht0_7
  have ht1_8 : ad8 1 = q1 := (hk8 1 (by decide)).trans ht1_7
  have ht15_8 : ad8 15 = q3 := (hk8 15 (by decide)).trans ht15_7
  have ht29_8 : ad8 29 = q5 := (hk8 29 (by decide)).trans ht29_7
  have ht43_8 : ad8 43 = q7 := (hk8 43 (by decide)).trans hq7
  have hc8 : ∀ k, k < sg_0.length → ad8 k = ad k := fun k hk => (hk8 k (Nat.lt_of_lt_of_le hk (by decide))).trans (hc7 k hk)
  replace hz : Zb (sm_X4_init_43 (sm_X0_init_29 (sm_X0_init_15 (sm_X3_init_1 σ)))) 56 := ci_X4_init_43_z hz
  replace hR : Rg (sm_X4_init_43 (sm_X0_init_29 (sm_X0_init_15 (sm_X3_init_1 σ)))) := ci_X4_init_43_r hR
  refine n_putR (shs := sg_114) (shs' := sg_115) (ty := .object "SiteObjects$Runner") (z := 43) X (iXc6 _) (k := 0) rfl rfl 3 (by decide) tyX6 tyX6_ok nmX6 rfl hin rfl (List.mem_cons_of_mem _ mw_300) (by decide +kernel) rfl rfl (by decide) ht0_8 ht43_8 rfl dX6_init_61 ?_
  exact n_vret X hr hlk hc8 dX6_init_64
theorem sgC_eq : sg_115 = shC := rfl
def sg_116 : List Sh := [(0, 7, [(0, 0), (3, 0), (0, 0), (3, 0), (3, 0), (3, 0), (3, 0), (0, 0), (0, 0), (3, 0), (3, 0), (3, 0), (3, 0), (3, 0), (3, 0), (3, 0), (0, 0), (0, 0), (0, 0), (0, 0), (0, 0), (0, 0), (0, 0), (0, 0), (0, 0), (3, 0), (3, 0), (3, 0), (3, 0), (0, 0), (3, 0), (3, 0), (3, 0), (3, 0), (0, 0), (0, 0), (0, 0), (0, 0), (0, 0), (0, 0), (0, 0), (0, 0), (0, 0), (0, 0), (0, 0), (0, 0), (0, 0), (3, 0), (3, 0), (3, 0), (3, 0), (3, 0), (0, 0), (3, 0), (3, 0), (3, 0), (3, 0), (3, 0), (3, 0)])]
theorem sg_116_len : sg_116.length = 1 := rfl
def sg_117 : List Sh := [(0, 7, [(0, 0), (3, 0), (0, 0), (3, 0), (3, 0), (3, 0), (3, 0), (0, 0), (0, 0), (3, 0), (3, 0), (3, 0), (3, 0), (3, 0), (3, 0), (3, 0), (0, 0), (0, 0), (0, 0), (0, 0), (0, 0), (0, 0), (0, 0), (0, 0), (0, 0), (3, 0), (3, 0), (3, 0), (3, 0), (0, 0), (3, 0), (3, 0), (3, 0), (3, 0), (0, 0), (0, 0), (0, 0), (0, 0), (0, 0), (0, 0), (0, 0), (0, 0), (0, 0), (0, 0), (0, 0), (0, 0), (0, 0), (3, 0), (3, 0), (3, 0), (3, 0), (3, 0), (0, 0), (3, 0), (3, 0), (3, 0), (3, 0), (3, 0), (3, 0)]), (1, 10, [])]
theorem sg_117_len : sg_117.length = 2 := rfl
def sg_118 : List Sh := [(0, 7, [(0, 0), (2, 1), (0, 0), (3, 0), (3, 0), (3, 0), (3, 0), (0, 0), (0, 0), (3, 0), (3, 0), (3, 0), (3, 0), (3, 0), (3, 0), (3, 0), (0, 0), (0, 0), (0, 0), (0, 0), (0, 0), (0, 0), (0, 0), (0, 0), (0, 0), (3, 0), (3, 0), (3, 0), (3, 0), (0, 0), (3, 0), (3, 0), (3, 0), (3, 0), (0, 0), (0, 0), (0, 0), (0, 0), (0, 0), (0, 0), (0, 0), (0, 0), (0, 0), (0, 0), (0, 0), (0, 0), (0, 0), (3, 0), (3, 0), (3, 0), (3, 0), (3, 0), (0, 0), (3, 0), (3, 0), (3, 0), (3, 0), (3, 0), (3, 0)]), (1, 10, [])]
theorem sg_118_len : sg_118.length = 2 := rfl
def sg_119 : List Sh := [(0, 7, [(0, 0), (2, 1), (0, 0), (3, 0), (3, 0), (3, 0), (3, 0), (0, 0), (0, 0), (3, 0), (3, 0), (3, 0), (3, 0), (3, 0), (3, 0), (3, 0), (0, 0), (0, 0), (0, 0), (0, 0), (0, 0), (0, 0), (0, 0), (0, 0), (0, 0), (3, 0), (3, 0), (3, 0), (3, 0), (0, 0), (3, 0), (3, 0), (3, 0), (3, 0), (0, 0), (0, 0), (0, 0), (0, 0), (0, 0), (0, 0), (0, 0), (0, 0), (0, 0), (0, 0), (0, 0), (0, 0), (0, 0), (3, 0), (3, 0), (3, 0), (3, 0), (3, 0), (0, 0), (3, 0), (3, 0), (3, 0), (3, 0), (3, 0), (3, 0)]), (1, 10, []), (1, 12, [])]
theorem sg_119_len : sg_119.length = 3 := rfl
def sg_120 : List Sh := [(0, 7, [(0, 0), (2, 1), (0, 0), (2, 2), (3, 0), (3, 0), (3, 0), (0, 0), (0, 0), (3, 0), (3, 0), (3, 0), (3, 0), (3, 0), (3, 0), (3, 0), (0, 0), (0, 0), (0, 0), (0, 0), (0, 0), (0, 0), (0, 0), (0, 0), (0, 0), (3, 0), (3, 0), (3, 0), (3, 0), (0, 0), (3, 0), (3, 0), (3, 0), (3, 0), (0, 0), (0, 0), (0, 0), (0, 0), (0, 0), (0, 0), (0, 0), (0, 0), (0, 0), (0, 0), (0, 0), (0, 0), (0, 0), (3, 0), (3, 0), (3, 0), (3, 0), (3, 0), (0, 0), (3, 0), (3, 0), (3, 0), (3, 0), (3, 0), (3, 0)]), (1, 10, []), (1, 12, [])]
theorem sg_120_len : sg_120.length = 3 := rfl
def sg_121 : List Sh := [(0, 7, [(0, 0), (2, 1), (0, 0), (2, 2), (3, 0), (3, 0), (3, 0), (0, 0), (0, 0), (3, 0), (3, 0), (3, 0), (3, 0), (3, 0), (3, 0), (3, 0), (0, 0), (0, 0), (0, 0), (0, 0), (0, 0), (0, 0), (0, 0), (0, 0), (0, 0), (3, 0), (3, 0), (3, 0), (3, 0), (0, 0), (3, 0), (3, 0), (3, 0), (3, 0), (0, 0), (0, 0), (0, 0), (0, 0), (0, 0), (0, 0), (0, 0), (0, 0), (0, 0), (0, 0), (0, 0), (0, 0), (0, 0), (3, 0), (3, 0), (3, 0), (3, 0), (3, 0), (0, 0), (3, 0), (3, 0), (3, 0), (3, 0), (3, 0), (3, 0)]), (1, 10, []), (1, 12, []), (1, 12, [])]
theorem sg_121_len : sg_121.length = 4 := rfl
def sg_122 : List Sh := [(0, 7, [(0, 0), (2, 1), (0, 0), (2, 2), (2, 3), (3, 0), (3, 0), (0, 0), (0, 0), (3, 0), (3, 0), (3, 0), (3, 0), (3, 0), (3, 0), (3, 0), (0, 0), (0, 0), (0, 0), (0, 0), (0, 0), (0, 0), (0, 0), (0, 0), (0, 0), (3, 0), (3, 0), (3, 0), (3, 0), (0, 0), (3, 0), (3, 0), (3, 0), (3, 0), (0, 0), (0, 0), (0, 0), (0, 0), (0, 0), (0, 0), (0, 0), (0, 0), (0, 0), (0, 0), (0, 0), (0, 0), (0, 0), (3, 0), (3, 0), (3, 0), (3, 0), (3, 0), (0, 0), (3, 0), (3, 0), (3, 0), (3, 0), (3, 0), (3, 0)]), (1, 10, []), (1, 12, []), (1, 12, [])]
theorem sg_122_len : sg_122.length = 4 := rfl
def sg_123 : List Sh := [(0, 7, [(0, 0), (2, 1), (0, 0), (2, 2), (2, 3), (3, 0), (3, 0), (0, 0), (0, 0), (3, 0), (3, 0), (3, 0), (3, 0), (3, 0), (3, 0), (3, 0), (0, 0), (0, 0), (0, 0), (0, 0), (0, 0), (0, 0), (0, 0), (0, 0), (0, 0), (3, 0), (3, 0), (3, 0), (3, 0), (0, 0), (3, 0), (3, 0), (3, 0), (3, 0), (0, 0), (0, 0), (0, 0), (0, 0), (0, 0), (0, 0), (0, 0), (0, 0), (0, 0), (0, 0), (0, 0), (0, 0), (0, 0), (3, 0), (3, 0), (3, 0), (3, 0), (3, 0), (0, 0), (3, 0), (3, 0), (3, 0), (3, 0), (3, 0), (3, 0)]), (1, 10, []), (1, 12, []), (1, 12, []), (1, 12, [])]
theorem sg_123_len : sg_123.length = 5 := rfl
def sg_124 : List Sh := [(0, 7, [(0, 0), (2, 1), (0, 0), (2, 2), (2, 3), (2, 4), (3, 0), (0, 0), (0, 0), (3, 0), (3, 0), (3, 0), (3, 0), (3, 0), (3, 0), (3, 0), (0, 0), (0, 0), (0, 0), (0, 0), (0, 0), (0, 0), (0, 0), (0, 0), (0, 0), (3, 0), (3, 0), (3, 0), (3, 0), (0, 0), (3, 0), (3, 0), (3, 0), (3, 0), (0, 0), (0, 0), (0, 0), (0, 0), (0, 0), (0, 0), (0, 0), (0, 0), (0, 0), (0, 0), (0, 0), (0, 0), (0, 0), (3, 0), (3, 0), (3, 0), (3, 0), (3, 0), (0, 0), (3, 0), (3, 0), (3, 0), (3, 0), (3, 0), (3, 0)]), (1, 10, []), (1, 12, []), (1, 12, []), (1, 12, [])]
theorem sg_124_len : sg_124.length = 5 := rfl
def sg_125 : List Sh := [(0, 7, [(0, 0), (2, 1), (0, 0), (2, 2), (2, 3), (2, 4), (3, 0), (0, 0), (0, 0), (3, 0), (3, 0), (3, 0), (3, 0), (3, 0), (3, 0), (3, 0), (0, 0), (0, 0), (0, 0), (0, 0), (0, 0), (0, 0), (0, 0), (0, 0), (0, 0), (3, 0), (3, 0), (3, 0), (3, 0), (0, 0), (3, 0), (3, 0), (3, 0), (3, 0), (0, 0), (0, 0), (0, 0), (0, 0), (0, 0), (0, 0), (0, 0), (0, 0), (0, 0), (0, 0), (0, 0), (0, 0), (0, 0), (3, 0), (3, 0), (3, 0), (3, 0), (3, 0), (0, 0), (3, 0), (3, 0), (3, 0), (3, 0), (3, 0), (3, 0)]), (1, 10, []), (1, 12, []), (1, 12, []), (1, 12, []), (1, 1080, [])]
theorem sg_125_len : sg_125.length = 6 := rfl
def sg_126 : List Sh := [(0, 7, [(0, 0), (2, 1), (0, 0), (2, 2), (2, 3), (2, 4), (2, 5), (0, 0), (0, 0), (3, 0), (3, 0), (3, 0), (3, 0), (3, 0), (3, 0), (3, 0), (0, 0), (0, 0), (0, 0), (0, 0), (0, 0), (0, 0), (0, 0), (0, 0), (0, 0), (3, 0), (3, 0), (3, 0), (3, 0), (0, 0), (3, 0), (3, 0), (3, 0), (3, 0), (0, 0), (0, 0), (0, 0), (0, 0), (0, 0), (0, 0), (0, 0), (0, 0), (0, 0), (0, 0), (0, 0), (0, 0), (0, 0), (3, 0), (3, 0), (3, 0), (3, 0), (3, 0), (0, 0), (3, 0), (3, 0), (3, 0), (3, 0), (3, 0), (3, 0)]), (1, 10, []), (1, 12, []), (1, 12, []), (1, 12, []), (1, 1080, [])]
theorem sg_126_len : sg_126.length = 6 := rfl
def sg_127 : List Sh := [(0, 7, [(0, 0), (2, 1), (0, 0), (2, 2), (2, 3), (2, 4), (2, 5), (0, 0), (0, 0), (3, 0), (3, 0), (3, 0), (3, 0), (3, 0), (3, 0), (3, 0), (0, 0), (0, 0), (0, 0), (0, 0), (0, 0), (0, 0), (0, 0), (0, 0), (0, 0), (3, 0), (3, 0), (3, 0), (3, 0), (0, 0), (3, 0), (3, 0), (3, 0), (3, 0), (0, 0), (0, 0), (0, 0), (0, 0), (0, 0), (0, 0), (0, 0), (0, 0), (0, 0), (0, 0), (0, 0), (0, 0), (0, 0), (3, 0), (3, 0), (3, 0), (3, 0), (3, 0), (0, 0), (3, 0), (3, 0), (3, 0), (3, 0), (3, 0), (3, 0)]), (1, 10, []), (1, 12, []), (1, 12, []), (1, 12, []), (1, 1080, []), (1, 90, [])]
theorem sg_127_len : sg_127.length = 7 := rfl
def sg_128 : List Sh := [(0, 7, [(0, 0), (2, 1), (0, 0), (2, 2), (2, 3), (2, 4), (2, 5), (0, 0), (0, 0), (2, 6), (3, 0), (3, 0), (3, 0), (3, 0), (3, 0), (3, 0), (0, 0), (0, 0), (0, 0), (0, 0), (0, 0), (0, 0), (0, 0), (0, 0), (0, 0), (3, 0), (3, 0), (3, 0), (3, 0), (0, 0), (3, 0), (3, 0), (3, 0), (3, 0), (0, 0), (0, 0), (0, 0), (0, 0), (0, 0), (0, 0), (0, 0), (0, 0), (0, 0), (0, 0), (0, 0), (0, 0), (0, 0), (3, 0), (3, 0), (3, 0), (3, 0), (3, 0), (0, 0), (3, 0), (3, 0), (3, 0), (3, 0), (3, 0), (3, 0)]), (1, 10, []), (1, 12, []), (1, 12, []), (1, 12, []), (1, 1080, []), (1, 90, [])]
theorem sg_128_len : sg_128.length = 7 := rfl
def sg_129 : List Sh := [(0, 7, [(0, 0), (2, 1), (0, 0), (2, 2), (2, 3), (2, 4), (2, 5), (0, 0), (0, 0), (2, 6), (3, 0), (3, 0), (3, 0), (3, 0), (3, 0), (3, 0), (0, 0), (0, 0), (0, 0), (0, 0), (0, 0), (0, 0), (0, 0), (0, 0), (0, 0), (3, 0), (3, 0), (3, 0), (3, 0), (0, 0), (3, 0), (3, 0), (3, 0), (3, 0), (0, 0), (0, 0), (0, 0), (0, 0), (0, 0), (0, 0), (0, 0), (0, 0), (0, 0), (0, 0), (0, 0), (0, 0), (0, 0), (3, 0), (3, 0), (3, 0), (3, 0), (3, 0), (0, 0), (3, 0), (3, 0), (3, 0), (3, 0), (3, 0), (3, 0)]), (1, 10, []), (1, 12, []), (1, 12, []), (1, 12, []), (1, 1080, []), (1, 90, []), (1, 90, [])]
theorem sg_129_len : sg_129.length = 8 := rfl
def sg_130 : List Sh := [(0, 7, [(0, 0), (2, 1), (0, 0), (2, 2), (2, 3), (2, 4), (2, 5), (0, 0), (0, 0), (2, 6), (2, 7), (3, 0), (3, 0), (3, 0), (3, 0), (3, 0), (0, 0), (0, 0), (0, 0), (0, 0), (0, 0), (0, 0), (0, 0), (0, 0), (0, 0), (3, 0), (3, 0), (3, 0), (3, 0), (0, 0), (3, 0), (3, 0), (3, 0), (3, 0), (0, 0), (0, 0), (0, 0), (0, 0), (0, 0), (0, 0), (0, 0), (0, 0), (0, 0), (0, 0), (0, 0), (0, 0), (0, 0), (3, 0), (3, 0), (3, 0), (3, 0), (3, 0), (0, 0), (3, 0), (3, 0), (3, 0), (3, 0), (3, 0), (3, 0)]), (1, 10, []), (1, 12, []), (1, 12, []), (1, 12, []), (1, 1080, []), (1, 90, []), (1, 90, [])]
theorem sg_130_len : sg_130.length = 8 := rfl
def sg_131 : List Sh := [(0, 7, [(0, 0), (2, 1), (0, 0), (2, 2), (2, 3), (2, 4), (2, 5), (0, 0), (0, 0), (2, 6), (2, 7), (3, 0), (3, 0), (3, 0), (3, 0), (3, 0), (0, 0), (0, 0), (0, 0), (0, 0), (0, 0), (0, 0), (0, 0), (0, 0), (0, 0), (3, 0), (3, 0), (3, 0), (3, 0), (0, 0), (3, 0), (3, 0), (3, 0), (3, 0), (0, 0), (0, 0), (0, 0), (0, 0), (0, 0), (0, 0), (0, 0), (0, 0), (0, 0), (0, 0), (0, 0), (0, 0), (0, 0), (3, 0), (3, 0), (3, 0), (3, 0), (3, 0), (0, 0), (3, 0), (3, 0), (3, 0), (3, 0), (3, 0), (3, 0)]), (1, 10, []), (1, 12, []), (1, 12, []), (1, 12, []), (1, 1080, []), (1, 90, []), (1, 90, []), (1, 90, [])]
theorem sg_131_len : sg_131.length = 9 := rfl
def sg_132 : List Sh := [(0, 7, [(0, 0), (2, 1), (0, 0), (2, 2), (2, 3), (2, 4), (2, 5), (0, 0), (0, 0), (2, 6), (2, 7), (2, 8), (3, 0), (3, 0), (3, 0), (3, 0), (0, 0), (0, 0), (0, 0), (0, 0), (0, 0), (0, 0), (0, 0), (0, 0), (0, 0), (3, 0), (3, 0), (3, 0), (3, 0), (0, 0), (3, 0), (3, 0), (3, 0), (3, 0), (0, 0), (0, 0), (0, 0), (0, 0), (0, 0), (0, 0), (0, 0), (0, 0), (0, 0), (0, 0), (0, 0), (0, 0), (0, 0), (3, 0), (3, 0), (3, 0), (3, 0), (3, 0), (0, 0), (3, 0), (3, 0), (3, 0), (3, 0), (3, 0), (3, 0)]), (1, 10, []), (1, 12, []), (1, 12, []), (1, 12, []), (1, 1080, []), (1, 90, []), (1, 90, []), (1, 90, [])]
theorem sg_132_len : sg_132.length = 9 := rfl
def sg_133 : List Sh := [(0, 7, [(0, 0), (2, 1), (0, 0), (2, 2), (2, 3), (2, 4), (2, 5), (0, 0), (0, 0), (2, 6), (2, 7), (2, 8), (3, 0), (3, 0), (3, 0), (3, 0), (0, 0), (0, 0), (0, 0), (0, 0), (0, 0), (0, 0), (0, 0), (0, 0), (0, 0), (3, 0), (3, 0), (3, 0), (3, 0), (0, 0), (3, 0), (3, 0), (3, 0), (3, 0), (0, 0), (0, 0), (0, 0), (0, 0), (0, 0), (0, 0), (0, 0), (0, 0), (0, 0), (0, 0), (0, 0), (0, 0), (0, 0), (3, 0), (3, 0), (3, 0), (3, 0), (3, 0), (0, 0), (3, 0), (3, 0), (3, 0), (3, 0), (3, 0), (3, 0)]), (1, 10, []), (1, 12, []), (1, 12, []), (1, 12, []), (1, 1080, []), (1, 90, []), (1, 90, []), (1, 90, []), (1, 90, [])]
theorem sg_133_len : sg_133.length = 10 := rfl
def sg_134 : List Sh := [(0, 7, [(0, 0), (2, 1), (0, 0), (2, 2), (2, 3), (2, 4), (2, 5), (0, 0), (0, 0), (2, 6), (2, 7), (2, 8), (2, 9), (3, 0), (3, 0), (3, 0), (0, 0), (0, 0), (0, 0), (0, 0), (0, 0), (0, 0), (0, 0), (0, 0), (0, 0), (3, 0), (3, 0), (3, 0), (3, 0), (0, 0), (3, 0), (3, 0), (3, 0), (3, 0), (0, 0), (0, 0), (0, 0), (0, 0), (0, 0), (0, 0), (0, 0), (0, 0), (0, 0), (0, 0), (0, 0), (0, 0), (0, 0), (3, 0), (3, 0), (3, 0), (3, 0), (3, 0), (0, 0), (3, 0), (3, 0), (3, 0), (3, 0), (3, 0), (3, 0)]), (1, 10, []), (1, 12, []), (1, 12, []), (1, 12, []), (1, 1080, []), (1, 90, []), (1, 90, []), (1, 90, []), (1, 90, [])]
theorem sg_134_len : sg_134.length = 10 := rfl
def sg_135 : List Sh := [(0, 7, [(0, 0), (2, 1), (0, 0), (2, 2), (2, 3), (2, 4), (2, 5), (0, 0), (0, 0), (2, 6), (2, 7), (2, 8), (2, 9), (3, 0), (3, 0), (3, 0), (0, 0), (0, 0), (0, 0), (0, 0), (0, 0), (0, 0), (0, 0), (0, 0), (0, 0), (3, 0), (3, 0), (3, 0), (3, 0), (0, 0), (3, 0), (3, 0), (3, 0), (3, 0), (0, 0), (0, 0), (0, 0), (0, 0), (0, 0), (0, 0), (0, 0), (0, 0), (0, 0), (0, 0), (0, 0), (0, 0), (0, 0), (3, 0), (3, 0), (3, 0), (3, 0), (3, 0), (0, 0), (3, 0), (3, 0), (3, 0), (3, 0), (3, 0), (3, 0)]), (1, 10, []), (1, 12, []), (1, 12, []), (1, 12, []), (1, 1080, []), (1, 90, []), (1, 90, []), (1, 90, []), (1, 90, []), (1, 90, [])]
theorem sg_135_len : sg_135.length = 11 := rfl
def sg_136 : List Sh := [(0, 7, [(0, 0), (2, 1), (0, 0), (2, 2), (2, 3), (2, 4), (2, 5), (0, 0), (0, 0), (2, 6), (2, 7), (2, 8), (2, 9), (2, 10), (3, 0), (3, 0), (0, 0), (0, 0), (0, 0), (0, 0), (0, 0), (0, 0), (0, 0), (0, 0), (0, 0), (3, 0), (3, 0), (3, 0), (3, 0), (0, 0), (3, 0), (3, 0), (3, 0), (3, 0), (0, 0), (0, 0), (0, 0), (0, 0), (0, 0), (0, 0), (0, 0), (0, 0), (0, 0), (0, 0), (0, 0), (0, 0), (0, 0), (3, 0), (3, 0), (3, 0), (3, 0), (3, 0), (0, 0), (3, 0), (3, 0), (3, 0), (3, 0), (3, 0), (3, 0)]), (1, 10, []), (1, 12, []), (1, 12, []), (1, 12, []), (1, 1080, []), (1, 90, []), (1, 90, []), (1, 90, []), (1, 90, []), (1, 90, [])]
theorem sg_136_len : sg_136.length = 11 := rfl
def sg_137 : List Sh := [(0, 7, [(0, 0), (2, 1), (0, 0), (2, 2), (2, 3), (2, 4), (2, 5), (0, 0), (0, 0), (2, 6), (2, 7), (2, 8), (2, 9), (2, 10), (3, 0), (3, 0), (0, 0), (0, 0), (0, 0), (0, 0), (0, 0), (0, 0), (0, 0), (0, 0), (0, 0), (3, 0), (3, 0), (3, 0), (3, 0), (0, 0), (3, 0), (3, 0), (3, 0), (3, 0), (0, 0), (0, 0), (0, 0), (0, 0), (0, 0), (0, 0), (0, 0), (0, 0), (0, 0), (0, 0), (0, 0), (0, 0), (0, 0), (3, 0), (3, 0), (3, 0), (3, 0), (3, 0), (0, 0), (3, 0), (3, 0), (3, 0), (3, 0), (3, 0), (3, 0)]), (1, 10, []), (1, 12, []), (1, 12, []), (1, 12, []), (1, 1080, []), (1, 90, []), (1, 90, []), (1, 90, []), (1, 90, []), (1, 90, []), (1, 90, [])]
theorem sg_137_len : sg_137.length = 12 := rfl
def sg_138 : List Sh := [(0, 7, [(0, 0), (2, 1), (0, 0), (2, 2), (2, 3), (2, 4), (2, 5), (0, 0), (0, 0), (2, 6), (2, 7), (2, 8), (2, 9), (2, 10), (2, 11), (3, 0), (0, 0), (0, 0), (0, 0), (0, 0), (0, 0), (0, 0), (0, 0), (0, 0), (0, 0), (3, 0), (3, 0), (3, 0), (3, 0), (0, 0), (3, 0), (3, 0), (3, 0), (3, 0), (0, 0), (0, 0), (0, 0), (0, 0), (0, 0), (0, 0), (0, 0), (0, 0), (0, 0), (0, 0), (0, 0), (0, 0), (0, 0), (3, 0), (3, 0), (3, 0), (3, 0), (3, 0), (0, 0), (3, 0), (3, 0), (3, 0), (3, 0), (3, 0), (3, 0)]), (1, 10, []), (1, 12, []), (1, 12, []), (1, 12, []), (1, 1080, []), (1, 90, []), (1, 90, []), (1, 90, []), (1, 90, []), (1, 90, []), (1, 90, [])]
theorem sg_138_len : sg_138.length = 12 := rfl
def sg_139 : List Sh := [(0, 7, [(0, 0), (2, 1), (0, 0), (2, 2), (2, 3), (2, 4), (2, 5), (0, 0), (0, 0), (2, 6), (2, 7), (2, 8), (2, 9), (2, 10), (2, 11), (3, 0), (0, 0), (0, 0), (0, 0), (0, 0), (0, 0), (0, 0), (0, 0), (0, 0), (0, 0), (3, 0), (3, 0), (3, 0), (3, 0), (0, 0), (3, 0), (3, 0), (3, 0), (3, 0), (0, 0), (0, 0), (0, 0), (0, 0), (0, 0), (0, 0), (0, 0), (0, 0), (0, 0), (0, 0), (0, 0), (0, 0), (0, 0), (3, 0), (3, 0), (3, 0), (3, 0), (3, 0), (0, 0), (3, 0), (3, 0), (3, 0), (3, 0), (3, 0), (3, 0)]), (1, 10, []), (1, 12, []), (1, 12, []), (1, 12, []), (1, 1080, []), (1, 90, []), (1, 90, []), (1, 90, []), (1, 90, []), (1, 90, []), (1, 90, []), (1, 90, [])]
theorem sg_139_len : sg_139.length = 13 := rfl
def sg_140 : List Sh := [(0, 7, [(0, 0), (2, 1), (0, 0), (2, 2), (2, 3), (2, 4), (2, 5), (0, 0), (0, 0), (2, 6), (2, 7), (2, 8), (2, 9), (2, 10), (2, 11), (2, 12), (0, 0), (0, 0), (0, 0), (0, 0), (0, 0), (0, 0), (0, 0), (0, 0), (0, 0), (3, 0), (3, 0), (3, 0), (3, 0), (0, 0), (3, 0), (3, 0), (3, 0), (3, 0), (0, 0), (0, 0), (0, 0), (0, 0), (0, 0), (0, 0), (0, 0), (0, 0), (0, 0), (0, 0), (0, 0), (0, 0), (0, 0), (3, 0), (3, 0), (3, 0), (3, 0), (3, 0), (0, 0), (3, 0), (3, 0), (3, 0), (3, 0), (3, 0), (3, 0)]), (1, 10, []), (1, 12, []), (1, 12, []), (1, 12, []), (1, 1080, []), (1, 90, []), (1, 90, []), (1, 90, []), (1, 90, []), (1, 90, []), (1, 90, []), (1, 90, [])]
theorem sg_140_len : sg_140.length = 13 := rfl
def sg_141 : List Sh := [(0, 7, [(0, 0), (2, 1), (0, 0), (2, 2), (2, 3), (2, 4), (2, 5), (0, 0), (0, 0), (2, 6), (2, 7), (2, 8), (2, 9), (2, 10), (2, 11), (2, 12), (0, 0), (0, 0), (0, 0), (0, 0), (0, 0), (0, 0), (0, 0), (0, 0), (0, 0), (3, 0), (3, 0), (3, 0), (3, 0), (0, 0), (3, 0), (3, 0), (3, 0), (3, 0), (0, 0), (0, 0), (0, 0), (0, 0), (0, 0), (0, 0), (0, 0), (0, 0), (0, 0), (0, 0), (0, 0), (0, 0), (0, 0), (3, 0), (3, 0), (3, 0), (3, 0), (3, 0), (0, 0), (3, 0), (3, 0), (3, 0), (3, 0), (3, 0), (3, 0)]), (1, 10, []), (1, 12, []), (1, 12, []), (1, 12, []), (1, 1080, []), (1, 90, []), (1, 90, []), (1, 90, []), (1, 90, []), (1, 90, []), (1, 90, []), (1, 90, []), (1, 80, [])]
theorem sg_141_len : sg_141.length = 14 := rfl
def sg_142 : List Sh := [(0, 7, [(0, 0), (2, 1), (0, 0), (2, 2), (2, 3), (2, 4), (2, 5), (0, 0), (0, 0), (2, 6), (2, 7), (2, 8), (2, 9), (2, 10), (2, 11), (2, 12), (0, 0), (0, 0), (0, 0), (0, 0), (0, 0), (0, 0), (0, 0), (0, 0), (0, 0), (2, 13), (3, 0), (3, 0), (3, 0), (0, 0), (3, 0), (3, 0), (3, 0), (3, 0), (0, 0), (0, 0), (0, 0), (0, 0), (0, 0), (0, 0), (0, 0), (0, 0), (0, 0), (0, 0), (0, 0), (0, 0), (0, 0), (3, 0), (3, 0), (3, 0), (3, 0), (3, 0), (0, 0), (3, 0), (3, 0), (3, 0), (3, 0), (3, 0), (3, 0)]), (1, 10, []), (1, 12, []), (1, 12, []), (1, 12, []), (1, 1080, []), (1, 90, []), (1, 90, []), (1, 90, []), (1, 90, []), (1, 90, []), (1, 90, []), (1, 90, []), (1, 80, [])]
theorem sg_142_len : sg_142.length = 14 := rfl
def sg_143 : List Sh := [(0, 7, [(0, 0), (2, 1), (0, 0), (2, 2), (2, 3), (2, 4), (2, 5), (0, 0), (0, 0), (2, 6), (2, 7), (2, 8), (2, 9), (2, 10), (2, 11), (2, 12), (0, 0), (0, 0), (0, 0), (0, 0), (0, 0), (0, 0), (0, 0), (0, 0), (0, 0), (2, 13), (3, 0), (3, 0), (3, 0), (0, 0), (3, 0), (3, 0), (3, 0), (3, 0), (0, 0), (0, 0), (0, 0), (0, 0), (0, 0), (0, 0), (0, 0), (0, 0), (0, 0), (0, 0), (0, 0), (0, 0), (0, 0), (3, 0), (3, 0), (3, 0), (3, 0), (3, 0), (0, 0), (3, 0), (3, 0), (3, 0), (3, 0), (3, 0), (3, 0)]), (1, 10, []), (1, 12, []), (1, 12, []), (1, 12, []), (1, 1080, []), (1, 90, []), (1, 90, []), (1, 90, []), (1, 90, []), (1, 90, []), (1, 90, []), (1, 90, []), (1, 80, []), (1, 80, [])]
theorem sg_143_len : sg_143.length = 15 := rfl
def sg_144 : List Sh := [(0, 7, [(0, 0), (2, 1), (0, 0), (2, 2), (2, 3), (2, 4), (2, 5), (0, 0), (0, 0), (2, 6), (2, 7), (2, 8), (2, 9), (2, 10), (2, 11), (2, 12), (0, 0), (0, 0), (0, 0), (0, 0), (0, 0), (0, 0), (0, 0), (0, 0), (0, 0), (2, 13), (2, 14), (3, 0), (3, 0), (0, 0), (3, 0), (3, 0), (3, 0), (3, 0), (0, 0), (0, 0), (0, 0), (0, 0), (0, 0), (0, 0), (0, 0), (0, 0), (0, 0), (0, 0), (0, 0), (0, 0), (0, 0), (3, 0), (3, 0), (3, 0), (3, 0), (3, 0), (0, 0), (3, 0), (3, 0), (3, 0), (3, 0), (3, 0), (3, 0)]), (1, 10, []), (1, 12, []), (1, 12, []), (1, 12, []), (1, 1080, []), (1, 90, []), (1, 90, []), (1, 90, []), (1, 90, []), (1, 90, []), (1, 90, []), (1, 90, []), (1, 80, []), (1, 80, [])]
theorem sg_144_len : sg_144.length = 15 := rfl
def sg_145 : List Sh := [(0, 7, [(0, 0), (2, 1), (0, 0), (2, 2), (2, 3), (2, 4), (2, 5), (0, 0), (0, 0), (2, 6), (2, 7), (2, 8), (2, 9), (2, 10), (2, 11), (2, 12), (0, 0), (0, 0), (0, 0), (0, 0), (0, 0), (0, 0), (0, 0), (0, 0), (0, 0), (2, 13), (2, 14), (3, 0), (3, 0), (0, 0), (3, 0), (3, 0), (3, 0), (3, 0), (0, 0), (0, 0), (0, 0), (0, 0), (0, 0), (0, 0), (0, 0), (0, 0), (0, 0), (0, 0), (0, 0), (0, 0), (0, 0), (3, 0), (3, 0), (3, 0), (3, 0), (3, 0), (0, 0), (3, 0), (3, 0), (3, 0), (3, 0), (3, 0), (3, 0)]), (1, 10, []), (1, 12, []), (1, 12, []), (1, 12, []), (1, 1080, []), (1, 90, []), (1, 90, []), (1, 90, []), (1, 90, []), (1, 90, []), (1, 90, []), (1, 90, []), (1, 80, []), (1, 80, []), (1, 80, [])]
theorem sg_145_len : sg_145.length = 16 := rfl
def sg_146 : List Sh := [(0, 7, [(0, 0), (2, 1), (0, 0), (2, 2), (2, 3), (2, 4), (2, 5), (0, 0), (0, 0), (2, 6), (2, 7), (2, 8), (2, 9), (2, 10), (2, 11), (2, 12), (0, 0), (0, 0), (0, 0), (0, 0), (0, 0), (0, 0), (0, 0), (0, 0), (0, 0), (2, 13), (2, 14), (2, 15), (3, 0), (0, 0), (3, 0), (3, 0), (3, 0), (3, 0), (0, 0), (0, 0), (0, 0), (0, 0), (0, 0), (0, 0), (0, 0), (0, 0), (0, 0), (0, 0), (0, 0), (0, 0), (0, 0), (3, 0), (3, 0), (3, 0), (3, 0), (3, 0), (0, 0), (3, 0), (3, 0), (3, 0), (3, 0), (3, 0), (3, 0)]), (1, 10, []), (1, 12, []), (1, 12, []), (1, 12, []), (1, 1080, []), (1, 90, []), (1, 90, []), (1, 90, []), (1, 90, []), (1, 90, []), (1, 90, []), (1, 90, []), (1, 80, []), (1, 80, []), (1, 80, [])]
theorem sg_146_len : sg_146.length = 16 := rfl
def sg_147 : List Sh := [(0, 7, [(0, 0), (2, 1), (0, 0), (2, 2), (2, 3), (2, 4), (2, 5), (0, 0), (0, 0), (2, 6), (2, 7), (2, 8), (2, 9), (2, 10), (2, 11), (2, 12), (0, 0), (0, 0), (0, 0), (0, 0), (0, 0), (0, 0), (0, 0), (0, 0), (0, 0), (2, 13), (2, 14), (2, 15), (3, 0), (0, 0), (3, 0), (3, 0), (3, 0), (3, 0), (0, 0), (0, 0), (0, 0), (0, 0), (0, 0), (0, 0), (0, 0), (0, 0), (0, 0), (0, 0), (0, 0), (0, 0), (0, 0), (3, 0), (3, 0), (3, 0), (3, 0), (3, 0), (0, 0), (3, 0), (3, 0), (3, 0), (3, 0), (3, 0), (3, 0)]), (1, 10, []), (1, 12, []), (1, 12, []), (1, 12, []), (1, 1080, []), (1, 90, []), (1, 90, []), (1, 90, []), (1, 90, []), (1, 90, []), (1, 90, []), (1, 90, []), (1, 80, []), (1, 80, []), (1, 80, []), (2, 640, [])]
theorem sg_147_len : sg_147.length = 17 := rfl
def sg_148 : List Sh := [(0, 7, [(0, 0), (2, 1), (0, 0), (2, 2), (2, 3), (2, 4), (2, 5), (0, 0), (0, 0), (2, 6), (2, 7), (2, 8), (2, 9), (2, 10), (2, 11), (2, 12), (0, 0), (0, 0), (0, 0), (0, 0), (0, 0), (0, 0), (0, 0), (0, 0), (0, 0), (2, 13), (2, 14), (2, 15), (2, 16), (0, 0), (3, 0), (3, 0), (3, 0), (3, 0), (0, 0), (0, 0), (0, 0), (0, 0), (0, 0), (0, 0), (0, 0), (0, 0), (0, 0), (0, 0), (0, 0), (0, 0), (0, 0), (3, 0), (3, 0), (3, 0), (3, 0), (3, 0), (0, 0), (3, 0), (3, 0), (3, 0), (3, 0), (3, 0), (3, 0)]), (1, 10, []), (1, 12, []), (1, 12, []), (1, 12, []), (1, 1080, []), (1, 90, []), (1, 90, []), (1, 90, []), (1, 90, []), (1, 90, []), (1, 90, []), (1, 90, []), (1, 80, []), (1, 80, []), (1, 80, []), (2, 640, [])]
theorem sg_148_len : sg_148.length = 17 := rfl
def sg_149 : List Sh := [(0, 7, [(0, 0), (2, 1), (0, 0), (2, 2), (2, 3), (2, 4), (2, 5), (0, 0), (0, 0), (2, 6), (2, 7), (2, 8), (2, 9), (2, 10), (2, 11), (2, 12), (0, 0), (0, 0), (0, 0), (0, 0), (0, 0), (0, 0), (0, 0), (0, 0), (0, 0), (2, 13), (2, 14), (2, 15), (2, 16), (0, 0), (3, 0), (3, 0), (3, 0), (3, 0), (0, 0), (0, 0), (0, 0), (0, 0), (0, 0), (0, 0), (0, 0), (0, 0), (0, 0), (0, 0), (0, 0), (0, 0), (0, 0), (3, 0), (3, 0), (3, 0), (3, 0), (3, 0), (0, 0), (3, 0), (3, 0), (3, 0), (3, 0), (3, 0), (3, 0)]), (1, 10, []), (1, 12, []), (1, 12, []), (1, 12, []), (1, 1080, []), (1, 90, []), (1, 90, []), (1, 90, []), (1, 90, []), (1, 90, []), (1, 90, []), (1, 90, []), (1, 80, []), (1, 80, []), (1, 80, []), (2, 640, []), (1, 60, [])]
theorem sg_149_len : sg_149.length = 18 := rfl
def sg_150 : List Sh := [(0, 7, [(0, 0), (2, 1), (0, 0), (2, 2), (2, 3), (2, 4), (2, 5), (0, 0), (0, 0), (2, 6), (2, 7), (2, 8), (2, 9), (2, 10), (2, 11), (2, 12), (0, 0), (0, 0), (0, 0), (0, 0), (0, 0), (0, 0), (0, 0), (0, 0), (0, 0), (2, 13), (2, 14), (2, 15), (2, 16), (0, 0), (2, 17), (3, 0), (3, 0), (3, 0), (0, 0), (0, 0), (0, 0), (0, 0), (0, 0), (0, 0), (0, 0), (0, 0), (0, 0), (0, 0), (0, 0), (0, 0), (0, 0), (3, 0), (3, 0), (3, 0), (3, 0), (3, 0), (0, 0), (3, 0), (3, 0), (3, 0), (3, 0), (3, 0), (3, 0)]), (1, 10, []), (1, 12, []), (1, 12, []), (1, 12, []), (1, 1080, []), (1, 90, []), (1, 90, []), (1, 90, []), (1, 90, []), (1, 90, []), (1, 90, []), (1, 90, []), (1, 80, []), (1, 80, []), (1, 80, []), (2, 640, []), (1, 60, [])]
theorem sg_150_len : sg_150.length = 18 := rfl
def sg_151 : List Sh := [(0, 7, [(0, 0), (2, 1), (0, 0), (2, 2), (2, 3), (2, 4), (2, 5), (0, 0), (0, 0), (2, 6), (2, 7), (2, 8), (2, 9), (2, 10), (2, 11), (2, 12), (0, 0), (0, 0), (0, 0), (0, 0), (0, 0), (0, 0), (0, 0), (0, 0), (0, 0), (2, 13), (2, 14), (2, 15), (2, 16), (0, 0), (2, 17), (3, 0), (3, 0), (3, 0), (0, 0), (0, 0), (0, 0), (0, 0), (0, 0), (0, 0), (0, 0), (0, 0), (0, 0), (0, 0), (0, 0), (0, 0), (0, 0), (3, 0), (3, 0), (3, 0), (3, 0), (3, 0), (0, 0), (3, 0), (3, 0), (3, 0), (3, 0), (3, 0), (3, 0)]), (1, 10, []), (1, 12, []), (1, 12, []), (1, 12, []), (1, 1080, []), (1, 90, []), (1, 90, []), (1, 90, []), (1, 90, []), (1, 90, []), (1, 90, []), (1, 90, []), (1, 80, []), (1, 80, []), (1, 80, []), (2, 640, []), (1, 60, []), (1, 60, [])]
theorem sg_151_len : sg_151.length = 19 := rfl
def sg_152 : List Sh := [(0, 7, [(0, 0), (2, 1), (0, 0), (2, 2), (2, 3), (2, 4), (2, 5), (0, 0), (0, 0), (2, 6), (2, 7), (2, 8), (2, 9), (2, 10), (2, 11), (2, 12), (0, 0), (0, 0), (0, 0), (0, 0), (0, 0), (0, 0), (0, 0), (0, 0), (0, 0), (2, 13), (2, 14), (2, 15), (2, 16), (0, 0), (2, 17), (2, 18), (3, 0), (3, 0), (0, 0), (0, 0), (0, 0), (0, 0), (0, 0), (0, 0), (0, 0), (0, 0), (0, 0), (0, 0), (0, 0), (0, 0), (0, 0), (3, 0), (3, 0), (3, 0), (3, 0), (3, 0), (0, 0), (3, 0), (3, 0), (3, 0), (3, 0), (3, 0), (3, 0)]), (1, 10, []), (1, 12, []), (1, 12, []), (1, 12, []), (1, 1080, []), (1, 90, []), (1, 90, []), (1, 90, []), (1, 90, []), (1, 90, []), (1, 90, []), (1, 90, []), (1, 80, []), (1, 80, []), (1, 80, []), (2, 640, []), (1, 60, []), (1, 60, [])]
theorem sg_152_len : sg_152.length = 19 := rfl
def sg_153 : List Sh := [(0, 7, [(0, 0), (2, 1), (0, 0), (2, 2), (2, 3), (2, 4), (2, 5), (0, 0), (0, 0), (2, 6), (2, 7), (2, 8), (2, 9), (2, 10), (2, 11), (2, 12), (0, 0), (0, 0), (0, 0), (0, 0), (0, 0), (0, 0), (0, 0), (0, 0), (0, 0), (2, 13), (2, 14), (2, 15), (2, 16), (0, 0), (2, 17), (2, 18), (3, 0), (3, 0), (0, 0), (0, 0), (0, 0), (0, 0), (0, 0), (0, 0), (0, 0), (0, 0), (0, 0), (0, 0), (0, 0), (0, 0), (0, 0), (3, 0), (3, 0), (3, 0), (3, 0), (3, 0), (0, 0), (3, 0), (3, 0), (3, 0), (3, 0), (3, 0), (3, 0)]), (1, 10, []), (1, 12, []), (1, 12, []), (1, 12, []), (1, 1080, []), (1, 90, []), (1, 90, []), (1, 90, []), (1, 90, []), (1, 90, []), (1, 90, []), (1, 90, []), (1, 80, []), (1, 80, []), (1, 80, []), (2, 640, []), (1, 60, []), (1, 60, []), (2, 300, [])]
theorem sg_153_len : sg_153.length = 20 := rfl
def sg_154 : List Sh := [(0, 7, [(0, 0), (2, 1), (0, 0), (2, 2), (2, 3), (2, 4), (2, 5), (0, 0), (0, 0), (2, 6), (2, 7), (2, 8), (2, 9), (2, 10), (2, 11), (2, 12), (0, 0), (0, 0), (0, 0), (0, 0), (0, 0), (0, 0), (0, 0), (0, 0), (0, 0), (2, 13), (2, 14), (2, 15), (2, 16), (0, 0), (2, 17), (2, 18), (2, 19), (3, 0), (0, 0), (0, 0), (0, 0), (0, 0), (0, 0), (0, 0), (0, 0), (0, 0), (0, 0), (0, 0), (0, 0), (0, 0), (0, 0), (3, 0), (3, 0), (3, 0), (3, 0), (3, 0), (0, 0), (3, 0), (3, 0), (3, 0), (3, 0), (3, 0), (3, 0)]), (1, 10, []), (1, 12, []), (1, 12, []), (1, 12, []), (1, 1080, []), (1, 90, []), (1, 90, []), (1, 90, []), (1, 90, []), (1, 90, []), (1, 90, []), (1, 90, []), (1, 80, []), (1, 80, []), (1, 80, []), (2, 640, []), (1, 60, []), (1, 60, []), (2, 300, [])]
theorem sg_154_len : sg_154.length = 20 := rfl
def sg_155 : List Sh := [(0, 7, [(0, 0), (2, 1), (0, 0), (2, 2), (2, 3), (2, 4), (2, 5), (0, 0), (0, 0), (2, 6), (2, 7), (2, 8), (2, 9), (2, 10), (2, 11), (2, 12), (0, 0), (0, 0), (0, 0), (0, 0), (0, 0), (0, 0), (0, 0), (0, 0), (0, 0), (2, 13), (2, 14), (2, 15), (2, 16), (0, 0), (2, 17), (2, 18), (2, 19), (3, 0), (0, 0), (0, 0), (0, 0), (0, 0), (0, 0), (0, 0), (0, 0), (0, 0), (0, 0), (0, 0), (0, 0), (0, 0), (0, 0), (3, 0), (3, 0), (3, 0), (3, 0), (3, 0), (0, 0), (3, 0), (3, 0), (3, 0), (3, 0), (3, 0), (3, 0)]), (1, 10, []), (1, 12, []), (1, 12, []), (1, 12, []), (1, 1080, []), (1, 90, []), (1, 90, []), (1, 90, []), (1, 90, []), (1, 90, []), (1, 90, []), (1, 90, []), (1, 80, []), (1, 80, []), (1, 80, []), (2, 640, []), (1, 60, []), (1, 60, []), (2, 300, []), (2, 4, [])]
theorem sg_155_len : sg_155.length = 21 := rfl
def sg_156 : List Sh := [(0, 7, [(0, 0), (2, 1), (0, 0), (2, 2), (2, 3), (2, 4), (2, 5), (0, 0), (0, 0), (2, 6), (2, 7), (2, 8), (2, 9), (2, 10), (2, 11), (2, 12), (0, 0), (0, 0), (0, 0), (0, 0), (0, 0), (0, 0), (0, 0), (0, 0), (0, 0), (2, 13), (2, 14), (2, 15), (2, 16), (0, 0), (2, 17), (2, 18), (2, 19), (2, 20), (0, 0), (0, 0), (0, 0), (0, 0), (0, 0), (0, 0), (0, 0), (0, 0), (0, 0), (0, 0), (0, 0), (0, 0), (0, 0), (3, 0), (3, 0), (3, 0), (3, 0), (3, 0), (0, 0), (3, 0), (3, 0), (3, 0), (3, 0), (3, 0), (3, 0)]), (1, 10, []), (1, 12, []), (1, 12, []), (1, 12, []), (1, 1080, []), (1, 90, []), (1, 90, []), (1, 90, []), (1, 90, []), (1, 90, []), (1, 90, []), (1, 90, []), (1, 80, []), (1, 80, []), (1, 80, []), (2, 640, []), (1, 60, []), (1, 60, []), (2, 300, []), (2, 4, [])]
theorem sg_156_len : sg_156.length = 21 := rfl
def sg_157 : List Sh := [(0, 7, [(0, 0), (2, 1), (0, 0), (2, 2), (2, 3), (2, 4), (2, 5), (0, 0), (0, 0), (2, 6), (2, 7), (2, 8), (2, 9), (2, 10), (2, 11), (2, 12), (0, 0), (0, 0), (0, 0), (0, 0), (0, 0), (0, 0), (0, 0), (0, 0), (0, 0), (2, 13), (2, 14), (2, 15), (2, 16), (0, 0), (2, 17), (2, 18), (2, 19), (2, 20), (0, 0), (0, 0), (0, 0), (0, 0), (0, 0), (0, 0), (0, 0), (0, 0), (0, 0), (0, 0), (0, 0), (0, 0), (0, 0), (3, 0), (3, 0), (3, 0), (3, 0), (3, 0), (0, 0), (3, 0), (3, 0), (3, 0), (3, 0), (3, 0), (3, 0)]), (1, 10, []), (1, 12, []), (1, 12, []), (1, 12, []), (1, 1080, []), (1, 90, []), (1, 90, []), (1, 90, []), (1, 90, []), (1, 90, []), (1, 90, []), (1, 90, []), (1, 80, []), (1, 80, []), (1, 80, []), (2, 640, []), (1, 60, []), (1, 60, []), (2, 300, []), (2, 4, []), (1, 300, [])]
theorem sg_157_len : sg_157.length = 22 := rfl
def sg_158 : List Sh := [(0, 7, [(0, 0), (2, 1), (0, 0), (2, 2), (2, 3), (2, 4), (2, 5), (0, 0), (0, 0), (2, 6), (2, 7), (2, 8), (2, 9), (2, 10), (2, 11), (2, 12), (0, 0), (0, 0), (0, 0), (0, 0), (0, 0), (0, 0), (0, 0), (0, 0), (0, 0), (2, 13), (2, 14), (2, 15), (2, 16), (0, 0), (2, 17), (2, 18), (2, 19), (2, 20), (0, 0), (0, 0), (0, 0), (0, 0), (0, 0), (0, 0), (0, 0), (0, 0), (0, 0), (0, 0), (0, 0), (0, 0), (0, 0), (2, 21), (3, 0), (3, 0), (3, 0), (3, 0), (0, 0), (3, 0), (3, 0), (3, 0), (3, 0), (3, 0), (3, 0)]), (1, 10, []), (1, 12, []), (1, 12, []), (1, 12, []), (1, 1080, []), (1, 90, []), (1, 90, []), (1, 90, []), (1, 90, []), (1, 90, []), (1, 90, []), (1, 90, []), (1, 80, []), (1, 80, []), (1, 80, []), (2, 640, []), (1, 60, []), (1, 60, []), (2, 300, []), (2, 4, []), (1, 300, [])]
theorem sg_158_len : sg_158.length = 22 := rfl
def sg_159 : List Sh := [(0, 7, [(0, 0), (2, 1), (0, 0), (2, 2), (2, 3), (2, 4), (2, 5), (0, 0), (0, 0), (2, 6), (2, 7), (2, 8), (2, 9), (2, 10), (2, 11), (2, 12), (0, 0), (0, 0), (0, 0), (0, 0), (0, 0), (0, 0), (0, 0), (0, 0), (0, 0), (2, 13), (2, 14), (2, 15), (2, 16), (0, 0), (2, 17), (2, 18), (2, 19), (2, 20), (0, 0), (0, 0), (0, 0), (0, 0), (0, 0), (0, 0), (0, 0), (0, 0), (0, 0), (0, 0), (0, 0), (0, 0), (0, 0), (2, 21), (3, 0), (3, 0), (3, 0), (3, 0), (0, 0), (3, 0), (3, 0), (3, 0), (3, 0), (3, 0), (3, 0)]), (1, 10, []), (1, 12, []), (1, 12, []), (1, 12, []), (1, 1080, []), (1, 90, []), (1, 90, []), (1, 90, []), (1, 90, []), (1, 90, []), (1, 90, []), (1, 90, []), (1, 80, []), (1, 80, []), (1, 80, []), (2, 640, []), (1, 60, []), (1, 60, []), (2, 300, []), (2, 4, []), (1, 300, []), (1, 300, [])]
theorem sg_159_len : sg_159.length = 23 := rfl
def sg_160 : List Sh := [(0, 7, [(0, 0), (2, 1), (0, 0), (2, 2), (2, 3), (2, 4), (2, 5), (0, 0), (0, 0), (2, 6), (2, 7), (2, 8), (2, 9), (2, 10), (2, 11), (2, 12), (0, 0), (0, 0), (0, 0), (0, 0), (0, 0), (0, 0), (0, 0), (0, 0), (0, 0), (2, 13), (2, 14), (2, 15), (2, 16), (0, 0), (2, 17), (2, 18), (2, 19), (2, 20), (0, 0), (0, 0), (0, 0), (0, 0), (0, 0), (0, 0), (0, 0), (0, 0), (0, 0), (0, 0), (0, 0), (0, 0), (0, 0), (2, 21), (2, 22), (3, 0), (3, 0), (3, 0), (0, 0), (3, 0), (3, 0), (3, 0), (3, 0), (3, 0), (3, 0)]), (1, 10, []), (1, 12, []), (1, 12, []), (1, 12, []), (1, 1080, []), (1, 90, []), (1, 90, []), (1, 90, []), (1, 90, []), (1, 90, []), (1, 90, []), (1, 90, []), (1, 80, []), (1, 80, []), (1, 80, []), (2, 640, []), (1, 60, []), (1, 60, []), (2, 300, []), (2, 4, []), (1, 300, []), (1, 300, [])]
theorem sg_160_len : sg_160.length = 23 := rfl
def sg_161 : List Sh := [(0, 7, [(0, 0), (2, 1), (0, 0), (2, 2), (2, 3), (2, 4), (2, 5), (0, 0), (0, 0), (2, 6), (2, 7), (2, 8), (2, 9), (2, 10), (2, 11), (2, 12), (0, 0), (0, 0), (0, 0), (0, 0), (0, 0), (0, 0), (0, 0), (0, 0), (0, 0), (2, 13), (2, 14), (2, 15), (2, 16), (0, 0), (2, 17), (2, 18), (2, 19), (2, 20), (0, 0), (0, 0), (0, 0), (0, 0), (0, 0), (0, 0), (0, 0), (0, 0), (0, 0), (0, 0), (0, 0), (0, 0), (0, 0), (2, 21), (2, 22), (3, 0), (3, 0), (3, 0), (0, 0), (3, 0), (3, 0), (3, 0), (3, 0), (3, 0), (3, 0)]), (1, 10, []), (1, 12, []), (1, 12, []), (1, 12, []), (1, 1080, []), (1, 90, []), (1, 90, []), (1, 90, []), (1, 90, []), (1, 90, []), (1, 90, []), (1, 90, []), (1, 80, []), (1, 80, []), (1, 80, []), (2, 640, []), (1, 60, []), (1, 60, []), (2, 300, []), (2, 4, []), (1, 300, []), (1, 300, []), (1, 300, [])]
theorem sg_161_len : sg_161.length = 24 := rfl
def sg_162 : List Sh := [(0, 7, [(0, 0), (2, 1), (0, 0), (2, 2), (2, 3), (2, 4), (2, 5), (0, 0), (0, 0), (2, 6), (2, 7), (2, 8), (2, 9), (2, 10), (2, 11), (2, 12), (0, 0), (0, 0), (0, 0), (0, 0), (0, 0), (0, 0), (0, 0), (0, 0), (0, 0), (2, 13), (2, 14), (2, 15), (2, 16), (0, 0), (2, 17), (2, 18), (2, 19), (2, 20), (0, 0), (0, 0), (0, 0), (0, 0), (0, 0), (0, 0), (0, 0), (0, 0), (0, 0), (0, 0), (0, 0), (0, 0), (0, 0), (2, 21), (2, 22), (2, 23), (3, 0), (3, 0), (0, 0), (3, 0), (3, 0), (3, 0), (3, 0), (3, 0), (3, 0)]), (1, 10, []), (1, 12, []), (1, 12, []), (1, 12, []), (1, 1080, []), (1, 90, []), (1, 90, []), (1, 90, []), (1, 90, []), (1, 90, []), (1, 90, []), (1, 90, []), (1, 80, []), (1, 80, []), (1, 80, []), (2, 640, []), (1, 60, []), (1, 60, []), (2, 300, []), (2, 4, []), (1, 300, []), (1, 300, []), (1, 300, [])]
theorem sg_162_len : sg_162.length = 24 := rfl
def sg_163 : List Sh := [(0, 7, [(0, 0), (2, 1), (0, 0), (2, 2), (2, 3), (2, 4), (2, 5), (0, 0), (0, 0), (2, 6), (2, 7), (2, 8), (2, 9), (2, 10), (2, 11), (2, 12), (0, 0), (0, 0), (0, 0), (0, 0), (0, 0), (0, 0), (0, 0), (0, 0), (0, 0), (2, 13), (2, 14), (2, 15), (2, 16), (0, 0), (2, 17), (2, 18), (2, 19), (2, 20), (0, 0), (0, 0), (0, 0), (0, 0), (0, 0), (0, 0), (0, 0), (0, 0), (0, 0), (0, 0), (0, 0), (0, 0), (0, 0), (2, 21), (2, 22), (2, 23), (3, 0), (3, 0), (0, 0), (3, 0), (3, 0), (3, 0), (3, 0), (3, 0), (3, 0)]), (1, 10, []), (1, 12, []), (1, 12, []), (1, 12, []), (1, 1080, []), (1, 90, []), (1, 90, []), (1, 90, []), (1, 90, []), (1, 90, []), (1, 90, []), (1, 90, []), (1, 80, []), (1, 80, []), (1, 80, []), (2, 640, []), (1, 60, []), (1, 60, []), (2, 300, []), (2, 4, []), (1, 300, []), (1, 300, []), (1, 300, []), (1, 1500, [])]
theorem sg_163_len : sg_163.length = 25 := rfl
def sg_164 : List Sh := [(0, 7, [(0, 0), (2, 1), (0, 0), (2, 2), (2, 3), (2, 4), (2, 5), (0, 0), (0, 0), (2, 6), (2, 7), (2, 8), (2, 9), (2, 10), (2, 11), (2, 12), (0, 0), (0, 0), (0, 0), (0, 0), (0, 0), (0, 0), (0, 0), (0, 0), (0, 0), (2, 13), (2, 14), (2, 15), (2, 16), (0, 0), (2, 17), (2, 18), (2, 19), (2, 20), (0, 0), (0, 0), (0, 0), (0, 0), (0, 0), (0, 0), (0, 0), (0, 0), (0, 0), (0, 0), (0, 0), (0, 0), (0, 0), (2, 21), (2, 22), (2, 23), (2, 24), (3, 0), (0, 0), (3, 0), (3, 0), (3, 0), (3, 0), (3, 0), (3, 0)]), (1, 10, []), (1, 12, []), (1, 12, []), (1, 12, []), (1, 1080, []), (1, 90, []), (1, 90, []), (1, 90, []), (1, 90, []), (1, 90, []), (1, 90, []), (1, 90, []), (1, 80, []), (1, 80, []), (1, 80, []), (2, 640, []), (1, 60, []), (1, 60, []), (2, 300, []), (2, 4, []), (1, 300, []), (1, 300, []), (1, 300, []), (1, 1500, [])]
theorem sg_164_len : sg_164.length = 25 := rfl
def sg_165 : List Sh := [(0, 7, [(0, 0), (2, 1), (0, 0), (2, 2), (2, 3), (2, 4), (2, 5), (0, 0), (0, 0), (2, 6), (2, 7), (2, 8), (2, 9), (2, 10), (2, 11), (2, 12), (0, 0), (0, 0), (0, 0), (0, 0), (0, 0), (0, 0), (0, 0), (0, 0), (0, 0), (2, 13), (2, 14), (2, 15), (2, 16), (0, 0), (2, 17), (2, 18), (2, 19), (2, 20), (0, 0), (0, 0), (0, 0), (0, 0), (0, 0), (0, 0), (0, 0), (0, 0), (0, 0), (0, 0), (0, 0), (0, 0), (0, 0), (2, 21), (2, 22), (2, 23), (2, 24), (3, 0), (0, 0), (3, 0), (3, 0), (3, 0), (3, 0), (3, 0), (3, 0)]), (1, 10, []), (1, 12, []), (1, 12, []), (1, 12, []), (1, 1080, []), (1, 90, []), (1, 90, []), (1, 90, []), (1, 90, []), (1, 90, []), (1, 90, []), (1, 90, []), (1, 80, []), (1, 80, []), (1, 80, []), (2, 640, []), (1, 60, []), (1, 60, []), (2, 300, []), (2, 4, []), (1, 300, []), (1, 300, []), (1, 300, []), (1, 1500, []), (1, 4, [])]
theorem sg_165_len : sg_165.length = 26 := rfl
def sg_166 : List Sh := [(0, 7, [(0, 0), (2, 1), (0, 0), (2, 2), (2, 3), (2, 4), (2, 5), (0, 0), (0, 0), (2, 6), (2, 7), (2, 8), (2, 9), (2, 10), (2, 11), (2, 12), (0, 0), (0, 0), (0, 0), (0, 0), (0, 0), (0, 0), (0, 0), (0, 0), (0, 0), (2, 13), (2, 14), (2, 15), (2, 16), (0, 0), (2, 17), (2, 18), (2, 19), (2, 20), (0, 0), (0, 0), (0, 0), (0, 0), (0, 0), (0, 0), (0, 0), (0, 0), (0, 0), (0, 0), (0, 0), (0, 0), (0, 0), (2, 21), (2, 22), (2, 23), (2, 24), (2, 25), (0, 0), (3, 0), (3, 0), (3, 0), (3, 0), (3, 0), (3, 0)]), (1, 10, []), (1, 12, []), (1, 12, []), (1, 12, []), (1, 1080, []), (1, 90, []), (1, 90, []), (1, 90, []), (1, 90, []), (1, 90, []), (1, 90, []), (1, 90, []), (1, 80, []), (1, 80, []), (1, 80, []), (2, 640, []), (1, 60, []), (1, 60, []), (2, 300, []), (2, 4, []), (1, 300, []), (1, 300, []), (1, 300, []), (1, 1500, []), (1, 4, [])]
theorem sg_166_len : sg_166.length = 26 := rfl
def sg_167 : List Sh := [(0, 7, [(0, 0), (2, 1), (0, 0), (2, 2), (2, 3), (2, 4), (2, 5), (0, 0), (0, 0), (2, 6), (2, 7), (2, 8), (2, 9), (2, 10), (2, 11), (2, 12), (0, 0), (0, 0), (0, 0), (0, 0), (0, 0), (0, 0), (0, 0), (0, 0), (0, 0), (2, 13), (2, 14), (2, 15), (2, 16), (0, 0), (2, 17), (2, 18), (2, 19), (2, 20), (0, 0), (0, 0), (0, 0), (0, 0), (0, 0), (0, 0), (0, 0), (0, 0), (0, 0), (0, 0), (0, 0), (0, 0), (0, 0), (2, 21), (2, 22), (2, 23), (2, 24), (2, 25), (0, 0), (3, 0), (3, 0), (3, 0), (3, 0), (3, 0), (3, 0)]), (1, 10, []), (1, 12, []), (1, 12, []), (1, 12, []), (1, 1080, []), (1, 90, []), (1, 90, []), (1, 90, []), (1, 90, []), (1, 90, []), (1, 90, []), (1, 90, []), (1, 80, []), (1, 80, []), (1, 80, []), (2, 640, []), (1, 60, []), (1, 60, []), (2, 300, []), (2, 4, []), (1, 300, []), (1, 300, []), (1, 300, []), (1, 1500, []), (1, 4, []), (1, 25, [])]
theorem sg_167_len : sg_167.length = 27 := rfl
def sg_168 : List Sh := [(0, 7, [(0, 0), (2, 1), (0, 0), (2, 2), (2, 3), (2, 4), (2, 5), (0, 0), (0, 0), (2, 6), (2, 7), (2, 8), (2, 9), (2, 10), (2, 11), (2, 12), (0, 0), (0, 0), (0, 0), (0, 0), (0, 0), (0, 0), (0, 0), (0, 0), (0, 0), (2, 13), (2, 14), (2, 15), (2, 16), (0, 0), (2, 17), (2, 18), (2, 19), (2, 20), (0, 0), (0, 0), (0, 0), (0, 0), (0, 0), (0, 0), (0, 0), (0, 0), (0, 0), (0, 0), (0, 0), (0, 0), (0, 0), (2, 21), (2, 22), (2, 23), (2, 24), (2, 25), (0, 0), (2, 26), (3, 0), (3, 0), (3, 0), (3, 0), (3, 0)]), (1, 10, []), (1, 12, []), (1, 12, []), (1, 12, []), (1, 1080, []), (1, 90, []), (1, 90, []), (1, 90, []), (1, 90, []), (1, 90, []), (1, 90, []), (1, 90, []), (1, 80, []), (1, 80, []), (1, 80, []), (2, 640, []), (1, 60, []), (1, 60, []), (2, 300, []), (2, 4, []), (1, 300, []), (1, 300, []), (1, 300, []), (1, 1500, []), (1, 4, []), (1, 25, [])]
theorem sg_168_len : sg_168.length = 27 := rfl
def sg_169 : List Sh := [(0, 7, [(0, 0), (2, 1), (0, 0), (2, 2), (2, 3), (2, 4), (2, 5), (0, 0), (0, 0), (2, 6), (2, 7), (2, 8), (2, 9), (2, 10), (2, 11), (2, 12), (0, 0), (0, 0), (0, 0), (0, 0), (0, 0), (0, 0), (0, 0), (0, 0), (0, 0), (2, 13), (2, 14), (2, 15), (2, 16), (0, 0), (2, 17), (2, 18), (2, 19), (2, 20), (0, 0), (0, 0), (0, 0), (0, 0), (0, 0), (0, 0), (0, 0), (0, 0), (0, 0), (0, 0), (0, 0), (0, 0), (0, 0), (2, 21), (2, 22), (2, 23), (2, 24), (2, 25), (0, 0), (2, 26), (3, 0), (3, 0), (3, 0), (3, 0), (3, 0)]), (1, 10, []), (1, 12, []), (1, 12, []), (1, 12, []), (1, 1080, []), (1, 90, []), (1, 90, []), (1, 90, []), (1, 90, []), (1, 90, []), (1, 90, []), (1, 90, []), (1, 80, []), (1, 80, []), (1, 80, []), (2, 640, []), (1, 60, []), (1, 60, []), (2, 300, []), (2, 4, []), (1, 300, []), (1, 300, []), (1, 300, []), (1, 1500, []), (1, 4, []), (1, 25, []), (1, 25, [])]
theorem sg_169_len : sg_169.length = 28 := rfl
def sg_170 : List Sh := [(0, 7, [(0, 0), (2, 1), (0, 0), (2, 2), (2, 3), (2, 4), (2, 5), (0, 0), (0, 0), (2, 6), (2, 7), (2, 8), (2, 9), (2, 10), (2, 11), (2, 12), (0, 0), (0, 0), (0, 0), (0, 0), (0, 0), (0, 0), (0, 0), (0, 0), (0, 0), (2, 13), (2, 14), (2, 15), (2, 16), (0, 0), (2, 17), (2, 18), (2, 19), (2, 20), (0, 0), (0, 0), (0, 0), (0, 0), (0, 0), (0, 0), (0, 0), (0, 0), (0, 0), (0, 0), (0, 0), (0, 0), (0, 0), (2, 21), (2, 22), (2, 23), (2, 24), (2, 25), (0, 0), (2, 26), (2, 27), (3, 0), (3, 0), (3, 0), (3, 0)]), (1, 10, []), (1, 12, []), (1, 12, []), (1, 12, []), (1, 1080, []), (1, 90, []), (1, 90, []), (1, 90, []), (1, 90, []), (1, 90, []), (1, 90, []), (1, 90, []), (1, 80, []), (1, 80, []), (1, 80, []), (2, 640, []), (1, 60, []), (1, 60, []), (2, 300, []), (2, 4, []), (1, 300, []), (1, 300, []), (1, 300, []), (1, 1500, []), (1, 4, []), (1, 25, []), (1, 25, [])]
theorem sg_170_len : sg_170.length = 28 := rfl
def sg_171 : List Sh := [(0, 7, [(0, 0), (2, 1), (0, 0), (2, 2), (2, 3), (2, 4), (2, 5), (0, 0), (0, 0), (2, 6), (2, 7), (2, 8), (2, 9), (2, 10), (2, 11), (2, 12), (0, 0), (0, 0), (0, 0), (0, 0), (0, 0), (0, 0), (0, 0), (0, 0), (0, 0), (2, 13), (2, 14), (2, 15), (2, 16), (0, 0), (2, 17), (2, 18), (2, 19), (2, 20), (0, 0), (0, 0), (0, 0), (0, 0), (0, 0), (0, 0), (0, 0), (0, 0), (0, 0), (0, 0), (0, 0), (0, 0), (0, 0), (2, 21), (2, 22), (2, 23), (2, 24), (2, 25), (0, 0), (2, 26), (2, 27), (3, 0), (3, 0), (3, 0), (3, 0)]), (1, 10, []), (1, 12, []), (1, 12, []), (1, 12, []), (1, 1080, []), (1, 90, []), (1, 90, []), (1, 90, []), (1, 90, []), (1, 90, []), (1, 90, []), (1, 90, []), (1, 80, []), (1, 80, []), (1, 80, []), (2, 640, []), (1, 60, []), (1, 60, []), (2, 300, []), (2, 4, []), (1, 300, []), (1, 300, []), (1, 300, []), (1, 1500, []), (1, 4, []), (1, 25, []), (1, 25, []), (1, 150, [])]
theorem sg_171_len : sg_171.length = 29 := rfl
def sg_172 : List Sh := [(0, 7, [(0, 0), (2, 1), (0, 0), (2, 2), (2, 3), (2, 4), (2, 5), (0, 0), (0, 0), (2, 6), (2, 7), (2, 8), (2, 9), (2, 10), (2, 11), (2, 12), (0, 0), (0, 0), (0, 0), (0, 0), (0, 0), (0, 0), (0, 0), (0, 0), (0, 0), (2, 13), (2, 14), (2, 15), (2, 16), (0, 0), (2, 17), (2, 18), (2, 19), (2, 20), (0, 0), (0, 0), (0, 0), (0, 0), (0, 0), (0, 0), (0, 0), (0, 0), (0, 0), (0, 0), (0, 0), (0, 0), (0, 0), (2, 21), (2, 22), (2, 23), (2, 24), (2, 25), (0, 0), (2, 26), (2, 27), (2, 28), (3, 0), (3, 0), (3, 0)]), (1, 10, []), (1, 12, []), (1, 12, []), (1, 12, []), (1, 1080, []), (1, 90, []), (1, 90, []), (1, 90, []), (1, 90, []), (1, 90, []), (1, 90, []), (1, 90, []), (1, 80, []), (1, 80, []), (1, 80, []), (2, 640, []), (1, 60, []), (1, 60, []), (2, 300, []), (2, 4, []), (1, 300, []), (1, 300, []), (1, 300, []), (1, 1500, []), (1, 4, []), (1, 25, []), (1, 25, []), (1, 150, [])]
theorem sg_172_len : sg_172.length = 29 := rfl
def sg_173 : List Sh := [(0, 7, [(0, 0), (2, 1), (0, 0), (2, 2), (2, 3), (2, 4), (2, 5), (0, 0), (0, 0), (2, 6), (2, 7), (2, 8), (2, 9), (2, 10), (2, 11), (2, 12), (0, 0), (0, 0), (0, 0), (0, 0), (0, 0), (0, 0), (0, 0), (0, 0), (0, 0), (2, 13), (2, 14), (2, 15), (2, 16), (0, 0), (2, 17), (2, 18), (2, 19), (2, 20), (0, 0), (0, 0), (0, 0), (0, 0), (0, 0), (0, 0), (0, 0), (0, 0), (0, 0), (0, 0), (0, 0), (0, 0), (0, 0), (2, 21), (2, 22), (2, 23), (2, 24), (2, 25), (0, 0), (2, 26), (2, 27), (2, 28), (3, 0), (3, 0), (3, 0)]), (1, 10, []), (1, 12, []), (1, 12, []), (1, 12, []), (1, 1080, []), (1, 90, []), (1, 90, []), (1, 90, []), (1, 90, []), (1, 90, []), (1, 90, []), (1, 90, []), (1, 80, []), (1, 80, []), (1, 80, []), (2, 640, []), (1, 60, []), (1, 60, []), (2, 300, []), (2, 4, []), (1, 300, []), (1, 300, []), (1, 300, []), (1, 1500, []), (1, 4, []), (1, 25, []), (1, 25, []), (1, 150, []), (1, 300, [])]
theorem sg_173_len : sg_173.length = 30 := rfl
def sg_174 : List Sh := [(0, 7, [(0, 0), (2, 1), (0, 0), (2, 2), (2, 3), (2, 4), (2, 5), (0, 0), (0, 0), (2, 6), (2, 7), (2, 8), (2, 9), (2, 10), (2, 11), (2, 12), (0, 0), (0, 0), (0, 0), (0, 0), (0, 0), (0, 0), (0, 0), (0, 0), (0, 0), (2, 13), (2, 14), (2, 15), (2, 16), (0, 0), (2, 17), (2, 18), (2, 19), (2, 20), (0, 0), (0, 0), (0, 0), (0, 0), (0, 0), (0, 0), (0, 0), (0, 0), (0, 0), (0, 0), (0, 0), (0, 0), (0, 0), (2, 21), (2, 22), (2, 23), (2, 24), (2, 25), (0, 0), (2, 26), (2, 27), (2, 28), (2, 29), (3, 0), (3, 0)]), (1, 10, []), (1, 12, []), (1, 12, []), (1, 12, []), (1, 1080, []), (1, 90, []), (1, 90, []), (1, 90, []), (1, 90, []), (1, 90, []), (1, 90, []), (1, 90, []), (1, 80, []), (1, 80, []), (1, 80, []), (2, 640, []), (1, 60, []), (1, 60, []), (2, 300, []), (2, 4, []), (1, 300, []), (1, 300, []), (1, 300, []), (1, 1500, []), (1, 4, []), (1, 25, []), (1, 25, []), (1, 150, []), (1, 300, [])]
theorem sg_174_len : sg_174.length = 30 := rfl
def sg_175 : List Sh := [(0, 7, [(0, 0), (2, 1), (0, 0), (2, 2), (2, 3), (2, 4), (2, 5), (0, 0), (0, 0), (2, 6), (2, 7), (2, 8), (2, 9), (2, 10), (2, 11), (2, 12), (0, 0), (0, 0), (0, 0), (0, 0), (0, 0), (0, 0), (0, 0), (0, 0), (0, 0), (2, 13), (2, 14), (2, 15), (2, 16), (0, 0), (2, 17), (2, 18), (2, 19), (2, 20), (0, 0), (0, 0), (0, 0), (0, 0), (0, 0), (0, 0), (0, 0), (0, 0), (0, 0), (0, 0), (0, 0), (0, 0), (0, 0), (2, 21), (2, 22), (2, 23), (2, 24), (2, 25), (0, 0), (2, 26), (2, 27), (2, 28), (2, 29), (3, 0), (3, 0)]), (1, 10, []), (1, 12, []), (1, 12, []), (1, 12, []), (1, 1080, []), (1, 90, []), (1, 90, []), (1, 90, []), (1, 90, []), (1, 90, []), (1, 90, []), (1, 90, []), (1, 80, []), (1, 80, []), (1, 80, []), (2, 640, []), (1, 60, []), (1, 60, []), (2, 300, []), (2, 4, []), (1, 300, []), (1, 300, []), (1, 300, []), (1, 1500, []), (1, 4, []), (1, 25, []), (1, 25, []), (1, 150, []), (1, 300, []), (2, 144, [])]
theorem sg_175_len : sg_175.length = 31 := rfl
def sg_176 : List Sh := [(0, 7, [(0, 0), (2, 1), (0, 0), (2, 2), (2, 3), (2, 4), (2, 5), (0, 0), (0, 0), (2, 6), (2, 7), (2, 8), (2, 9), (2, 10), (2, 11), (2, 12), (0, 0), (0, 0), (0, 0), (0, 0), (0, 0), (0, 0), (0, 0), (0, 0), (0, 0), (2, 13), (2, 14), (2, 15), (2, 16), (0, 0), (2, 17), (2, 18), (2, 19), (2, 20), (0, 0), (0, 0), (0, 0), (0, 0), (0, 0), (0, 0), (0, 0), (0, 0), (0, 0), (0, 0), (0, 0), (0, 0), (0, 0), (2, 21), (2, 22), (2, 23), (2, 24), (2, 25), (0, 0), (2, 26), (2, 27), (2, 28), (2, 29), (2, 30), (3, 0)]), (1, 10, []), (1, 12, []), (1, 12, []), (1, 12, []), (1, 1080, []), (1, 90, []), (1, 90, []), (1, 90, []), (1, 90, []), (1, 90, []), (1, 90, []), (1, 90, []), (1, 80, []), (1, 80, []), (1, 80, []), (2, 640, []), (1, 60, []), (1, 60, []), (2, 300, []), (2, 4, []), (1, 300, []), (1, 300, []), (1, 300, []), (1, 1500, []), (1, 4, []), (1, 25, []), (1, 25, []), (1, 150, []), (1, 300, []), (2, 144, [])]
theorem sg_176_len : sg_176.length = 31 := rfl
def sg_177 : List Sh := [(0, 7, [(0, 0), (2, 1), (0, 0), (2, 2), (2, 3), (2, 4), (2, 5), (0, 0), (0, 0), (2, 6), (2, 7), (2, 8), (2, 9), (2, 10), (2, 11), (2, 12), (0, 0), (0, 0), (0, 0), (0, 0), (0, 0), (0, 0), (0, 0), (0, 0), (0, 0), (2, 13), (2, 14), (2, 15), (2, 16), (0, 0), (2, 17), (2, 18), (2, 19), (2, 20), (0, 0), (0, 0), (0, 0), (0, 0), (0, 0), (0, 0), (0, 0), (0, 0), (0, 0), (0, 0), (0, 0), (0, 0), (0, 0), (2, 21), (2, 22), (2, 23), (2, 24), (2, 25), (0, 0), (2, 26), (2, 27), (2, 28), (2, 29), (2, 30), (3, 0)]), (1, 10, []), (1, 12, []), (1, 12, []), (1, 12, []), (1, 1080, []), (1, 90, []), (1, 90, []), (1, 90, []), (1, 90, []), (1, 90, []), (1, 90, []), (1, 90, []), (1, 80, []), (1, 80, []), (1, 80, []), (2, 640, []), (1, 60, []), (1, 60, []), (2, 300, []), (2, 4, []), (1, 300, []), (1, 300, []), (1, 300, []), (1, 1500, []), (1, 4, []), (1, 25, []), (1, 25, []), (1, 150, []), (1, 300, []), (2, 144, []), (2, 144, [])]
theorem sg_177_len : sg_177.length = 32 := rfl
def sg_178 : List Sh := [(0, 7, [(0, 0), (2, 1), (0, 0), (2, 2), (2, 3), (2, 4), (2, 5), (0, 0), (0, 0), (2, 6), (2, 7), (2, 8), (2, 9), (2, 10), (2, 11), (2, 12), (0, 0), (0, 0), (0, 0), (0, 0), (0, 0), (0, 0), (0, 0), (0, 0), (0, 0), (2, 13), (2, 14), (2, 15), (2, 16), (0, 0), (2, 17), (2, 18), (2, 19), (2, 20), (0, 0), (0, 0), (0, 0), (0, 0), (0, 0), (0, 0), (0, 0), (0, 0), (0, 0), (0, 0), (0, 0), (0, 0), (0, 0), (2, 21), (2, 22), (2, 23), (2, 24), (2, 25), (0, 0), (2, 26), (2, 27), (2, 28), (2, 29), (2, 30), (2, 31)]), (1, 10, []), (1, 12, []), (1, 12, []), (1, 12, []), (1, 1080, []), (1, 90, []), (1, 90, []), (1, 90, []), (1, 90, []), (1, 90, []), (1, 90, []), (1, 90, []), (1, 80, []), (1, 80, []), (1, 80, []), (2, 640, []), (1, 60, []), (1, 60, []), (2, 300, []), (2, 4, []), (1, 300, []), (1, 300, []), (1, 300, []), (1, 1500, []), (1, 4, []), (1, 25, []), (1, 25, []), (1, 150, []), (1, 300, []), (2, 144, []), (2, 144, [])]
theorem sg_178_len : sg_178.length = 32 := rfl
def sm_X7_init (σ : Mm) : Mm := (stI (stI (stI (stI (stI (stI (stI (stI (stI (stI (stI (stI σ 0 0 1) 1 0 (-1)) 1 1 (-1)) 1 2 (-1)) 1 3 (-1)) 1 4 (-1)) 1 5 (-1)) 1 6 (-1)) 1 7 (-1)) 1 8 (-1)) 1 9 (-1)) 0 24 0)
theorem ci_X7_init_z {σ : Mm} (h : Zb σ 1) : Zb (sm_X7_init σ) 32 := by
  unfold sm_X7_init
  exact (Zb.stI (Zb.stI (Zb.stI (Zb.stI (Zb.stI (Zb.stI (Zb.stI (Zb.stI (Zb.stI (Zb.stI (Zb.stI (Zb.stI (Zb.mono h (by decide)) (by decide)) (by decide)) (by decide)) (by decide)) (by decide)) (by decide)) (by decide)) (by decide)) (by decide)) (by decide)) (by decide)) (by decide))
theorem ci_X7_init_r {σ : Mm} (hR : Rg σ) : Rg (sm_X7_init σ) := by
  unfold sm_X7_init
  exact (Rg.stI (Rg.stI (Rg.stI (Rg.stI (Rg.stI (Rg.stI (Rg.stI (Rg.stI (Rg.stI (Rg.stI (Rg.stI (Rg.stI hR (by decide)) (by decide)) (by decide)) (by decide)) (by decide)) (by decide)) (by decide)) (by decide)) (by decide)) (by decide)) (by decide)) (by decide))
theorem hd_X7_init : yX7_init.cls ≠ "java/lang/invoke/MethodHandle" ∧ yX7_init.cls ≠ "java/lang/invoke/VarHandle" ∧ (parseMethodDescriptor yX7_init.desc).map (fun d => d.parameters.length) = some 0 := by decide +kernel
set_option maxRecDepth 100000 in
set_option maxHeartbeats 4000000 in
theorem ci_X7_init {l : Launch} {D : va_G} {ca : Nat → ClassId} {ad : Nat → Nat} {σ : Mm} {a0 : Nat} (h0 : ad 0 = a0) (hz : Zb σ 1) (hR : Rg σ) : CtN l D vcl ca NM yX7_init (Cond.code yX7_init cX7_init 1 none :: tbG) { frames := 1, cells := 31, slots := 6252, locals := 20 } [.ref a0] ad sg_116 σ sg_178 (sm_X7_init σ) 31 6252 := by
  refine ct_N (shs := sg_116) (shs' := sg_178) RX7 rfl (by decide) rfl rfl (Nat.le_of_ble_eq_true rfl) (fun p e s m below meth c X hN hr hlk hin => ?_)
  show GN p l e _ s m _ below meth c (MQ below (QcN D vcl ca ad sg_116.length sg_178 (stI (stI (stI (stI (stI (stI (stI (stI (stI (stI (stI (stI σ 0 0 1) 1 0 (-1)) 1 1 (-1)) 1 2 (-1)) 1 3 (-1)) 1 4 (-1)) 1 5 (-1)) 1 6 (-1)) 1 7 (-1)) 1 8 (-1)) 1 9 (-1)) 0 24 0) s.heap.size) _ s 31 6252 _) 1 D vcl ca _ ad sg_116 σ 0 [(0, .ref a0)] [] 0 0
  refine n_aload_n X dX7_init_0 0 rfl ?_
  refine n_obj X (List.mem_cons_of_mem _ mw_821) (List.mem_cons_of_mem _ mw_18) (List.mem_cons_of_mem _ mw_19) dX7_init_1 (by decide) (Nat.le_of_ble_eq_true rfl) ?_
  refine n_aload_n X dX7_init_4 0 rfl ?_
  refine n_iconst X dX7_init_5 ?_
  refine n_putI (shs := sg_116) (ty := .int) X (iXc7 _) (k := 0) rfl rfl 0 (by decide) tyX7 tyX7_ok nmX7 rfl (List.mem_cons_of_mem _ mw_822) (by decide +kernel) (by decide) (by decide) rfl h0 dX7_init_6 ?_
  replace hz : Zb (stI σ 0 0 1) 1 := Zb.stI hz (by decide)
  replace hR : Rg (stI σ 0 0 1) := Rg.stI hR (by decide)
  refine n_aload_n X dX7_init_9 0 rfl ?_
  refine n_bipush X dX7_init_10 (by decide) ?_
  refine n_arr (shs := sg_116) (shs' := sg_117) (atype := .int) (tg := 1) (n := 10) (ty := .int) (a0 := (10, .inl (fun _ => 0))) X Aw_new (List.mem_cons_of_mem _ mw_104) rfl (fun _ => rfl) (by decide) (by decide) (by decide) (by decide) (cel_I hz) rfl (by decide) dX7_init_12 (fun ad1 q1 hk1 hq1 => ?_)
  have ht0_1 : ad1 0 = a0 := (hk1 0 (by decide)).trans h0
  have hc1 : ∀ k, k < sg_116.length → ad1 k = ad k := fun k hk => (hk1 k (Nat.lt_of_lt_of_le hk (by decide))).trans ((fun _ _ => rfl) k hk)
  replace hz : Zb (stI σ 0 0 1) 2 := Zb.mono hz (by decide)
  refine n_dup X dX7_init_14 rfl ?_
  refine n_iconst X dX7_init_15 ?_
  refine n_iconst X dX7_init_16 ?_
  refine n_iast (shs := sg_117) (k := 1) X rfl (by decide) (by decide) hq1 dX7_init_17 ?_
  replace hz : Zb (stI (stI σ 0 0 1) 1 0 (-1)) 2 := Zb.stI hz (by decide)
  replace hR : Rg (stI (stI σ 0 0 1) 1 0 (-1)) := Rg.stI hR (by decide)
  refine n_dup X dX7_init_18 rfl ?_
  refine n_iconst X dX7_init_19 ?_
  refine n_iconst X dX7_init_20 ?_
  refine n_iast (shs := sg_117) (k := 1) X rfl (by decide) (by decide) hq1 dX7_init_21 ?_
  replace hz : Zb (stI (stI (stI σ 0 0 1) 1 0 (-1)) 1 1 (-1)) 2 := Zb.stI hz (by decide)
  replace hR : Rg (stI (stI (stI σ 0 0 1) 1 0 (-1)) 1 1 (-1)) := Rg.stI hR (by decide)
  refine n_dup X dX7_init_22 rfl ?_
  refine n_iconst X dX7_init_23 ?_
  refine n_iconst X dX7_init_24 ?_
  refine n_iast (shs := sg_117) (k := 1) X rfl (by decide) (by decide) hq1 dX7_init_25 ?_
  replace hz : Zb (stI (stI (stI (stI σ 0 0 1) 1 0 (-1)) 1 1 (-1)) 1 2 (-1)) 2 := Zb.stI hz (by decide)
  replace hR : Rg (stI (stI (stI (stI σ 0 0 1) 1 0 (-1)) 1 1 (-1)) 1 2 (-1)) := Rg.stI hR (by decide)
  refine n_dup X dX7_init_26 rfl ?_
  refine n_iconst X dX7_init_27 ?_
  refine n_iconst X dX7_init_28 ?_
  refine n_iast (shs := sg_117) (k := 1) X rfl (by decide) (by decide) hq1 dX7_init_29 ?_
  replace hz : Zb (stI (stI (stI (stI (stI σ 0 0 1) 1 0 (-1)) 1 1 (-1)) 1 2 (-1)) 1 3 (-1)) 2 := Zb.stI hz (by decide)
  replace hR : Rg (stI (stI (stI (stI (stI σ 0 0 1) 1 0 (-1)) 1 1 (-1)) 1 2 (-1)) 1 3 (-1)) := Rg.stI hR (by decide)
  refine n_dup X dX7_init_30 rfl ?_
  refine n_iconst X dX7_init_31 ?_
  refine n_iconst X dX7_init_32 ?_
  refine n_iast (shs := sg_117) (k := 1) X rfl (by decide) (by decide) hq1 dX7_init_33 ?_
  replace hz : Zb (stI (stI (stI (stI (stI (stI σ 0 0 1) 1 0 (-1)) 1 1 (-1)) 1 2 (-1)) 1 3 (-1)) 1 4 (-1)) 2 := Zb.stI hz (by decide)
  replace hR : Rg (stI (stI (stI (stI (stI (stI σ 0 0 1) 1 0 (-1)) 1 1 (-1)) 1 2 (-1)) 1 3 (-1)) 1 4 (-1)) := Rg.stI hR (by decide)
  refine n_dup X dX7_init_34 rfl ?_
  refine n_iconst X dX7_init_35 ?_
  refine n_iconst X dX7_init_36 ?_
  refine n_iast (shs := sg_117) (k := 1) X rfl (by decide) (by decide) hq1 dX7_init_37 ?_
  replace hz : Zb (stI (stI (stI (stI (stI (stI (stI σ 0 0 1) 1 0 (-1)) 1 1 (-1)) 1 2 (-1)) 1 3 (-1)) 1 4 (-1)) 1 5 (-1)) 2 := Zb.stI hz (by decide)
  replace hR : Rg (stI (stI (stI (stI (stI (stI (stI σ 0 0 1) 1 0 (-1)) 1 1 (-1)) 1 2 (-1)) 1 3 (-1)) 1 4 (-1)) 1 5 (-1)) := Rg.stI hR (by decide)
  refine n_dup X dX7_init_38 rfl ?_
  refine n_bipush X dX7_init_39 (by decide) ?_
  refine n_iconst X dX7_init_41 ?_
  refine n_iast (shs := sg_117) (k := 1) X rfl (by decide) (by decide) hq1 dX7_init_42 ?_
  replace hz : Zb (stI (stI (stI (stI (stI (stI (stI (stI σ 0 0 1) 1 0 (-1)) 1 1 (-1)) 1 2 (-1)) 1 3 (-1)) 1 4 (-1)) 1 5 (-1)) 1 6 (-1)) 2 := Zb.stI hz (by decide)
  replace hR : Rg (stI (stI (stI (stI (stI (stI (stI (stI σ 0 0 1) 1 0 (-1)) 1 1 (-1)) 1 2 (-1)) 1 3 (-1)) 1 4 (-1)) 1 5 (-1)) 1 6 (-1)) := Rg.stI hR (by decide)
  refine n_dup X dX7_init_43 rfl ?_
  refine n_bipush X dX7_init_44 (by decide) ?_
  refine n_iconst X dX7_init_46 ?_
  refine n_iast (shs := sg_117) (k := 1) X rfl (by decide) (by decide) hq1 dX7_init_47 ?_
  replace hz : Zb (stI (stI (stI (stI (stI (stI (stI (stI (stI σ 0 0 1) 1 0 (-1)) 1 1 (-1)) 1 2 (-1)) 1 3 (-1)) 1 4 (-1)) 1 5 (-1)) 1 6 (-1)) 1 7 (-1)) 2 := Zb.stI hz (by decide)
  replace hR : Rg (stI (stI (stI (stI (stI (stI (stI (stI (stI σ 0 0 1) 1 0 (-1)) 1 1 (-1)) 1 2 (-1)) 1 3 (-1)) 1 4 (-1)) 1 5 (-1)) 1 6 (-1)) 1 7 (-1)) := Rg.stI hR (by decide)
  refine n_dup X dX7_init_48 rfl ?_
  refine n_bipush X dX7_init_49 (by decide) ?_
  refine n_iconst X dX7_init_51 ?_
  refine n_iast (shs := sg_117) (k := 1) X rfl (by decide) (by decide) hq1 dX7_init_52 ?_
  replace hz : Zb (stI (stI (stI (stI (stI (stI (stI (stI (stI (stI σ 0 0 1) 1 0 (-1)) 1 1 (-1)) 1 2 (-1)) 1 3 (-1)) 1 4 (-1)) 1 5 (-1)) 1 6 (-1)) 1 7 (-1)) 1 8 (-1)) 2 := Zb.stI hz (by decide)
  replace hR : Rg (stI (stI (stI (stI (stI (stI (stI (stI (stI (stI σ 0 0 1) 1 0 (-1)) 1 1 (-1)) 1 2 (-1)) 1 3 (-1)) 1 4 (-1)) 1 5 (-1)) 1 6 (-1)) 1 7 (-1)) 1 8 (-1)) := Rg.stI hR (by decide)
  refine n_dup X dX7_init_53 rfl ?_
  refine n_bipush X dX7_init_54 (by decide) ?_
  refine n_iconst X dX7_init_56 ?_
  refine n_iast (shs := sg_117) (k := 1) X rfl (by decide) (by decide) hq1 dX7_init_57 ?_
  replace hz : Zb (stI (stI (stI (stI (stI (stI (stI (stI (stI (stI (stI σ 0 0 1) 1 0 (-1)) 1 1 (-1)) 1 2 (-1)) 1 3 (-1)) 1 4 (-1)) 1 5 (-1)) 1 6 (-1)) 1 7 (-1)) 1 8 (-1)) 1 9 (-1)) 2 := Zb.stI hz (by decide)
  replace hR : Rg (stI (stI (stI (stI (stI (stI (stI (stI (stI (stI (stI σ 0 0 1) 1 0 (-1)) 1 1 (-1)) 1 2 (-1)) 1 3 (-1)) 1 4 (-1)) 1 5 (-1)) 1 6 (-1)) 1 7 (-1)) 1 8 (-1)) 1 9 (-1)) := Rg.stI hR (by decide)
  refine n_putR (shs := sg_117) (shs' := sg_118) (ty := .array .int) (z := 1) X (iXc7 _) (k := 0) rfl rfl 1 (by decide) tyX7 tyX7_ok nmX7 rfl hin rfl (List.mem_cons_of_mem _ mw_823) (by decide +kernel) rfl rfl (by decide) ht0_1 hq1 rfl dX7_init_58 ?_
  refine n_aload_n X dX7_init_61 0 rfl ?_
  refine n_bipush X dX7_init_62 (by decide) ?_
  refine n_arr (shs := sg_118) (shs' := sg_119) (atype := .int) (tg := 1) (n := 12) (ty := .int) (a0 := (12, .inl (fun _ => 0))) X Aw_new (List.mem_cons_of_mem _ mw_104) rfl (fun _ => rfl) (by decide) (by decide) (by decide) (by decide) (cel_I hz) rfl (by decide) dX7_init_64 (fun ad2 q2 hk2 hq2 => ?_)
  have ht0_2 : ad2 0 = a0 := (hk2 0 (by decide)).trans ht0_1
  have ht1_2 : ad2 1 = q1 := (hk2 1 (by decide)).trans hq1
  have hc2 : ∀ k, k < sg_116.length → ad2 k = ad k := fun k hk => (hk2 k (Nat.lt_of_lt_of_le hk (by decide))).trans (hc1 k hk)
  replace hz : Zb (stI (stI (stI (stI (stI (stI (stI (stI (stI (stI (stI σ 0 0 1) 1 0 (-1)) 1 1 (-1)) 1 2 (-1)) 1 3 (-1)) 1 4 (-1)) 1 5 (-1)) 1 6 (-1)) 1 7 (-1)) 1 8 (-1)) 1 9 (-1)) 3 := Zb.mono hz (by decide)
  refine n_putR (shs := sg_119) (shs' := sg_120) (ty := .array .int) (z := 2) X (iXc7 _) (k := 0) rfl rfl 3 (by decide) tyX7 tyX7_ok nmX7 rfl hin rfl (List.mem_cons_of_mem _ mw_825) (by decide +kernel) rfl rfl (by decide) ht0_2 hq2 rfl dX7_init_66 ?_
  refine n_aload_n X dX7_init_69 0 rfl ?_
  refine n_bipush X dX7_init_70 (by decide) ?_
  refine n_arr (shs := sg_120) (shs' := sg_121) (atype := .int) (tg := 1) (n := 12) (ty := .int) (a0 := (12, .inl (fun _ => 0))) X Aw_new (List.mem_cons_of_mem _ mw_104) rfl (fun _ => rfl) (by decide) (by decide) (by decide) (by decide) (cel_I hz) rfl (by decide) dX7_init_72 (fun ad3 q3 hk3 hq3 => ?_)
  have ht0_3 : ad3 0 = a0 := (hk3 0 (by decide)).trans ht0_2
  have ht1_3 : ad3 1 = q1 := (hk3 1 (by decide)).trans ht1_2
  have ht2_3 : ad3 2 = q2 := (hk3 2 (by decide)).trans hq2
  have hc3 : ∀ k, k < sg_116.length → ad3 k = ad k := fun k hk => (hk3 k (Nat.lt_of_lt_of_le hk (by decide))).trans (hc2 k hk)
  replace hz : Zb (stI (stI (stI (stI (stI (stI (stI (stI (stI (stI (stI σ 0 0 1) 1 0 (-1)) 1 1 (-1)) 1 2 (-1)) 1 3 (-1)) 1 4 (-1)) 1 5 (-1)) 1 6 (-1)) 1 7 (-1)) 1 8 (-1)) 1 9 (-1)) 4 := Zb.mono hz (by decide)
  refine n_putR (shs := sg_121) (shs' := sg_122) (ty := .array .int) (z := 3) X (iXc7 _) (k := 0) rfl rfl 4 (by decide) tyX7 tyX7_ok nmX7 rfl hin rfl (List.mem_cons_of_mem _ mw_826) (by decide +kernel) rfl rfl (by decide) ht0_3 hq3 rfl dX7_init_74 ?_
  refine n_aload_n X dX7_init_77 0 rfl ?_
  refine n_bipush X dX7_init_78 (by decide) ?_
  refine n_arr (shs := sg_122) (shs' := sg_123) (atype := .int) (tg := 1) (n := 12) (ty := .int) (a0 := (12, .inl (fun _ => 0))) X Aw_new (List.mem_cons_of_mem _ mw_104) rfl (fun _ => rfl) (by decide) (by decide) (by decide) (by decide) (cel_I hz) rfl (by decide) dX7_init_80 (fun ad4 q4 hk4 hq4 => ?_)
  have ht0_4 : ad4 0 = a0 := (hk4 0 (by decide)).trans ht0_3
  have ht1_4 : ad4 1 = q1 := (hk4 1 (by decide)).trans ht1_3
  have ht2_4 : ad4 2 = q2 := (hk4 2 (by decide)).trans ht2_3
  have ht3_4 : ad4 3 = q3 := (hk4 3 (by decide)).trans hq3
  have hc4 : ∀ k, k < sg_116.length → ad4 k = ad k := fun k hk => (hk4 k (Nat.lt_of_lt_of_le hk (by decide))).trans (hc3 k hk)
  replace hz : Zb (stI (stI (stI (stI (stI (stI (stI (stI (stI (stI (stI σ 0 0 1) 1 0 (-1)) 1 1 (-1)) 1 2 (-1)) 1 3 (-1)) 1 4 (-1)) 1 5 (-1)) 1 6 (-1)) 1 7 (-1)) 1 8 (-1)) 1 9 (-1)) 5 := Zb.mono hz (by decide)
  refine n_putR (shs := sg_123) (shs' := sg_124) (ty := .array .int) (z := 4) X (iXc7 _) (k := 0) rfl rfl 5 (by decide) tyX7 tyX7_ok nmX7 rfl hin rfl (List.mem_cons_of_mem _ mw_827) (by decide +kernel) rfl rfl (by decide) ht0_4 hq4 rfl dX7_init_82 ?_
  refine n_aload_n X dX7_init_85 0 rfl ?_
  refine n_sipush X dX7_init_86 (by decide) ?_
  refine n_arr (shs := sg_124) (shs' := sg_125) (atype := .int) (tg := 1) (n := 1080) (ty := .int) (a0 := (1080, .inl (fun _ => 0))) X Aw_new (List.mem_cons_of_mem _ mw_104) rfl (fun _ => rfl) (by decide) (by decide) (by decide) (by decide) (cel_I hz) rfl (by decide) dX7_init_89 (fun ad5 q5 hk5 hq5 => ?_)
  have ht0_5 : ad5 0 = a0 := (hk5 0 (by decide)).trans ht0_4
  have ht1_5 : ad5 1 = q1 := (hk5 1 (by decide)).trans ht1_4
  have ht2_5 : ad5 2 = q2 := (hk5 2 (by decide)).trans ht2_4
  have ht3_5 : ad5 3 = q3 := (hk5 3 (by decide)).trans ht3_4
  have ht4_5 : ad5 4 = q4 := (hk5 4 (by decide)).trans hq4
  have hc5 : ∀ k, k < sg_116.length → ad5 k = ad k := fun k hk => (hk5 k (Nat.lt_of_lt_of_le hk (by decide))).trans (hc4 k hk)
  replace hz : Zb (stI (stI (stI (stI (stI (stI (stI (stI (stI (stI (stI σ 0 0 1) 1 0 (-1)) 1 1 (-1)) 1 2 (-1)) 1 3 (-1)) 1 4 (-1)) 1 5 (-1)) 1 6 (-1)) 1 7 (-1)) 1 8 (-1)) 1 9 (-1)) 6 := Zb.mono hz (by decide)
  refine n_putR (shs := sg_125) (shs' := sg_126) (ty := .array .int) (z := 5) X (iXc7 _) (k := 0) rfl rfl 6 (by decide) tyX7 tyX7_ok nmX7 rfl hin rfl (List.mem_cons_of_mem _ mw_828) (by decide +kernel) rfl rfl (by decide) ht0_5 hq5 rfl dX7_init_91 ?_
  refine n_aload_n X dX7_init_94 0 rfl ?_
  refine n_bipush X dX7_init_95 (by decide) ?_
  refine n_arr (shs := sg_126) (shs' := sg_127) (atype := .int) (tg := 1) (n := 90) (ty := .int) (a0 := (90, .inl (fun _ => 0))) X Aw_new (List.mem_cons_of_mem _ mw_104) rfl (fun _ => rfl) (by decide) (by decide) (by decide) (by decide) (cel_I hz) rfl (by decide) dX7_init_97 (fun ad6 q6 hk6 hq6 => ?_)
  have ht0_6 : ad6 0 = a0 := (hk6 0 (by decide)).trans ht0_5
  have ht1_6 : ad6 1 = q1 := (hk6 1 (by decide)).trans ht1_5
  have ht2_6 : ad6 2 = q2 := (hk6 2 (by decide)).trans ht2_5
  have ht3_6 : ad6 3 = q3 := (hk6 3 (by decide)).trans ht3_5
  have ht4_6 : ad6 4 = q4 := (hk6 4 (by decide)).trans ht4_5
  have ht5_6 : ad6 5 = q5 := (hk6 5 (by decide)).trans hq5
  have hc6 : ∀ k, k < sg_116.length → ad6 k = ad k := fun k hk => (hk6 k (Nat.lt_of_lt_of_le hk (by decide))).trans (hc5 k hk)
  replace hz : Zb (stI (stI (stI (stI (stI (stI (stI (stI (stI (stI (stI σ 0 0 1) 1 0 (-1)) 1 1 (-1)) 1 2 (-1)) 1 3 (-1)) 1 4 (-1)) 1 5 (-1)) 1 6 (-1)) 1 7 (-1)) 1 8 (-1)) 1 9 (-1)) 7 := Zb.mono hz (by decide)
  refine n_putR (shs := sg_127) (shs' := sg_128) (ty := .array .int) (z := 6) X (iXc7 _) (k := 0) rfl rfl 9 (by decide) tyX7 tyX7_ok nmX7 rfl hin rfl (List.mem_cons_of_mem _ mw_831) (by decide +kernel) rfl rfl (by decide) ht0_6 hq6 rfl dX7_init_99 ?_
  refine n_aload_n X dX7_init_102 0 rfl ?_
  refine n_bipush X dX7_init_103 (by decide) ?_
  refine n_arr (shs := sg_128) (shs' := sg_129) (atype := .int) (tg := 1) (n := 90) (ty := .int) (a0 := (90, .inl (fun _ => 0))) X Aw_new (List.mem_cons_of_mem _ mw_104) rfl (fun _ => rfl) (by decide) (by decide) (by decide) (by decide) (cel_I hz) rfl (by decide) dX7_init_105 (fun ad7 q7 hk7 hq7 => ?_)
  have ht0_7 : ad7 0 = a0 := (hk7 0 (by decide)).trans ht0_6
  have ht1_7 : ad7 1 = q1 := (hk7 1 (by decide)).trans ht1_6
  have ht2_7 : ad7 2 = q2 := (hk7 2 (by decide)).trans ht2_6
  have ht3_7 : ad7 3 = q3 := (hk7 3 (by decide)).trans ht3_6
  have ht4_7 : ad7 4 = q4 := (hk7 4 (by decide)).trans ht4_6
  have ht5_7 : ad7 5 = q5 := (hk7 5 (by decide)).trans ht5_6
  have ht6_7 : ad7 6 = q6 := (hk7 6 (by decide)).trans hq6
  have hc7 : ∀ k, k < sg_116.length → ad7 k = ad k := fun k hk => (hk7 k (Nat.lt_of_lt_of_le hk (by decide))).trans (hc6 k hk)
  replace hz : Zb (stI (stI (stI (stI (stI (stI (stI (stI (stI (stI (stI σ 0 0 1) 1 0 (-1)) 1 1 (-1)) 1 2 (-1)) 1 3 (-1)) 1 4 (-1)) 1 5 (-1)) 1 6 (-1)) 1 7 (-1)) 1 8 (-1)) 1 9 (-1)) 8 := Zb.mono hz (by decide)
  refine n_putR (shs := sg_129) (shs' := sg_130) (ty := .array .int) (z := 7) X (iXc7 _) (k := 0) rfl rfl 10 (by decide) tyX7 tyX7_ok nmX7 rfl hin rfl (List.mem_cons_of_mem _ mw_832) (by decide +kernel) rfl rfl (by decide) ht0_7 hq7 rfl dX7_init_107 ?_
  refine n_aload_n X dX7_init_110 0 rfl ?_
  refine n_bipush X dX7_init_111 (by decide) ?_
  refine n_arr (shs := sg_130) (shs' := sg_131) (atype := .int) (tg := 1) (n := 90) (ty := .int) (a0 := (90, .inl (fun _ => 0))) X Aw_new (List.mem_cons_of_mem _ mw_104) rfl (fun _ => rfl) (by decide) (by decide) (by decide) (by decide) (cel_I hz) rfl (by decide) dX7_init_113 (fun ad8 q8 hk8 hq8 => ?_)
  have ht0_8 : ad8 0 = a0 := (hk8 0 (by decide)).trans ht0_7
  have ht1_8 : ad8 1 = q1 := (hk8 1 (by decide)).trans ht1_7
  have ht2_8 : ad8 2 = q2 := (hk8 2 (by decide)).trans ht2_7
  have ht3_8 : ad8 3 = q3 := (hk8 3 (by decide)).trans ht3_7
  have ht4_8 : ad8 4 = q4 := (hk8 4 (by decide)).trans ht4_7
  have ht5_8 : ad8 5 = q5 := (hk8 5 (by decide)).trans ht5_7
  have ht6_8 : ad8 6 = q6 := (hk8 6 (by decide)).trans ht6_7
  have ht7_8 : ad8 7 = q7 := (hk8 7 (by decide)).trans hq7
  have hc8 : ∀ k, k < sg_116.length → ad8 k = ad k := fun k hk => (hk8 k (Nat.lt_of_lt_of_le hk (by decide))).trans (hc7 k hk)
  replace hz : Zb (stI (stI (stI (stI (stI (stI (stI (stI (stI (stI (stI σ 0 0 1) 1 0 (-1)) 1 1 (-1)) 1 2 (-1)) 1 3 (-1)) 1 4 (-1)) 1 5 (-1)) 1 6 (-1)) 1 7 (-1)) 1 8 (-1)) 1 9 (-1)) 9 := Zb.mono hz (by decide)
  refine n_putR (shs := sg_131) (shs' := sg_132) (ty := .array .int) (z := 8) X (iXc7 _) (k := 0) rfl rfl 11 (by decide) tyX7 tyX7_ok nmX7 rfl hin rfl (List.mem_cons_of_mem _ mw_833) (by decide +kernel) rfl rfl (by decide) ht0_8 hq8 rfl dX7_init_115 ?_
  refine n_aload_n X dX7_init_118 0 rfl ?_
  refine n_bipush X dX7_init_119 (by decide) ?_
  refine n_arr (shs := sg_132) (shs' := sg_133) (atype := .int) (tg := 1) (n := 90) (ty := .int) (a0 := (90, .inl (fun _ => 0))) X Aw_new (List.mem_cons_of_mem _ mw_104) rfl (fun _ => rfl) (by decide) (by decide) (by decide) (by decide) (cel_I hz) rfl (by decide) dX7_init_121 (fun ad9 q9 hk9 hq9 => ?_)
  have ht0_9 : ad9 0 = a0 := (hk9 0 (by decide)).trans ht0_8
  have ht1_9 : ad9 1 = q1 := (hk9 1 (by decide)).trans ht1_8
  have ht2_9 : ad9 2 = q2 := (hk9 2 (by decide)).trans ht2_8
  have ht3_9 : ad9 3 = q3 := (hk9 3 (by decide)).trans ht3_8
  have ht4_9 : ad9 4 = q4 := (hk9 4 (by decide)).trans ht4_8
  have ht5_9 : ad9 5 = q5 := (hk9 5 (by decide)).trans ht5_8
  have ht6_9 : ad9 6 = q6 := (hk9 6 (by decide)).trans ht6_8
  have ht7_9 : ad9 7 = q7 := (hk9 7 (by decide)).trans ht7_8
  have ht8_9 : ad9 8 = q8 := (hk9 8 (by decide)).trans hq8
  have hc9 : ∀ k, k < sg_116.length → ad9 k = ad k := fun k hk => (hk9 k (Nat.lt_of_lt_of_le hk (by decide))).trans (hc8 k hk)
  replace hz : Zb (stI (stI (stI (stI (stI (stI (stI (stI (stI (stI (stI σ 0 0 1) 1 0 (-1)) 1 1 (-1)) 1 2 (-1)) 1 3 (-1)) 1 4 (-1)) 1 5 (-1)) 1 6 (-1)) 1 7 (-1)) 1 8 (-1)) 1 9 (-1)) 10 := Zb.mono hz (by decide)
  refine n_putR (shs := sg_133) (shs' := sg_134) (ty := .array .int) (z := 9) X (iXc7 _) (k := 0) rfl rfl 12 (by decide) tyX7 tyX7_ok nmX7 rfl hin rfl (List.mem_cons_of_mem _ mw_834) (by decide +kernel) rfl rfl (by decide) ht0_9 hq9 rfl dX7_init_123 ?_
  refine n_aload_n X dX7_init_126 0 rfl ?_
  refine n_bipush X dX7_init_127 (by decide) ?_
  refine n_arr (shs := sg_134) (shs' := sg_135) (atype := .int) (tg := 1) (n := 90) (ty := .int) (a0 := (90, .inl (fun _ => 0))) X Aw_new (List.mem_cons_of_mem _ mw_104) rfl (fun _ => rfl) (by decide) (by decide) (by decide) (by decide) (cel_I hz) rfl (by decide) dX7_init_129 (fun ad10 q10 hk10 hq10 => ?_)
  have ht0_10 : ad10 0 = a0 := (hk10 0 (by decide)).trans ht0_9
  have ht1_10 : ad10 1 = q1 := (hk10 1 (by decide)).trans ht1_9
  have ht2_10 : ad10 2 = q2 := (hk10 2 (by decide)).trans ht2_9
  have ht3_10 : ad10 3 = q3 := (hk10 3 (by decide)).trans ht3_9
  have ht4_10 : ad10 4 = q4 := (hk10 4 (by decide)).trans ht4_9
  have ht5_10 : ad10 5 = q5 := (hk10 5 (by decide)).trans ht5_9
  have ht6_10 : ad10 6 = q6 := (hk10 6 (by decide)).trans ht6_9
  have ht7_10 : ad10 7 = q7 := (hk10 7 (by decide)).trans ht7_9
  have ht8_10 : ad10 8 = q8 := (hk10 8 (by decide)).trans ht8_9
  have ht9_10 : ad10 9 = q9 := (hk10 9 (by decide)).trans hq9
  have hc10 : ∀ k, k < sg_116.length → ad10 k = ad k := fun k hk => (hk10 k (Nat.lt_of_lt_of_le hk (by decide))).trans (hc9 k hk)
  replace hz : Zb (stI (stI (stI (stI (stI (stI (stI (stI (stI (stI (stI σ 0 0 1) 1 0 (-1)) 1 1 (-1)) 1 2 (-1)) 1 3 (-1)) 1 4 (-1)) 1 5 (-1)) 1 6 (-1)) 1 7 (-1)) 1 8 (-1)) 1 9 (-1)) 11 := Zb.mono hz (by decide)
  refine n_putR (shs := sg_135) (shs' := sg_136) (ty := .array .int) (z := 10) X (iXc7 _) (k := 0) rfl rfl 13 (by decide) tyX7 tyX7_ok nmX7 rfl hin rfl (List.mem_cons_of_mem _ mw_835) (by decide +kernel) rfl rfl (by decide) ht0_10 hq10 rfl dX7_init_131 ?_
  refine n_aload_n X dX7_init_134 0 rfl ?_
  refine n_bipush X dX7_init_135 (by decide) ?_
  refine n_arr (shs := sg_136) (shs' := sg_137) (atype := .int) (tg := 1) (n := 90) (ty := .int) (a0 := (90, .inl (fun _ => 0))) X Aw_new (List.mem_cons_of_mem _ mw_104) rfl (fun _ => rfl) (by decide) (by decide) (by decide) (by decide) (cel_I hz) rfl (by decide) dX7_init_137 (fun ad11 q11 hk11 hq11 => ?_)
  have ht0_11 : ad11 0 = a0 := (hk11 0 (by decide)).trans ht0_10
  have ht1_11 : ad11 1 = q1 := (hk11 1 (by decide)).trans ht1_10
  have ht2_11 : ad11 2 = q2 := (hk11 2 (by decide)).trans ht2_10
  have ht3_11 : ad11 3 = q3 := (hk11 3 (by decide)).trans ht3_10
  have ht4_11 : ad11 4 = q4 := (hk11 4 (by decide)).trans ht4_10
  have ht5_11 : ad11 5 = q5 := (hk11 5 (by decide)).trans ht5_10
  have ht6_11 : ad11 6 = q6 := (hk11 6 (by decide)).trans ht6_10
  have ht7_11 : ad11 7 = q7 := (hk11 7 (by decide)).trans ht7_10
  have ht8_11 : ad11 8 = q8 := (hk11 8 (by decide)).trans ht8_10
  have ht9_11 : ad11 9 = q9 := (hk11 9 (by decide)).trans ht9_10
  have ht10_11 : ad11 10 = q10 := (hk11 10 (by decide)).trans hq10
  have hc11 : ∀ k, k < sg_116.length → ad11 k = ad k := fun k hk => (hk11 k (Nat.lt_of_lt_of_le hk (by decide))).trans (hc10 k hk)
  replace hz : Zb (stI (stI (stI (stI (stI (stI (stI (stI (stI (stI (stI σ 0 0 1) 1 0 (-1)) 1 1 (-1)) 1 2 (-1)) 1 3 (-1)) 1 4 (-1)) 1 5 (-1)) 1 6 (-1)) 1 7 (-1)) 1 8 (-1)) 1 9 (-1)) 12 := Zb.mono hz (by decide)
  refine n_putR (shs := sg_137) (shs' := sg_138) (ty := .array .int) (z := 11) X (iXc7 _) (k := 0) rfl rfl 14 (by decide) tyX7 tyX7_ok nmX7 rfl hin rfl (List.mem_cons_of_mem _ mw_836) (by decide +kernel) rfl rfl (by decide) ht0_11 hq11 rfl dX7_init_139 ?_
  refine n_aload_n X dX7_init_142 0 rfl ?_
  refine n_bipush X dX7_init_143 (by decide) ?_
  refine n_arr (shs := sg_138) (shs' := sg_139) (atype := .int) (tg := 1) (n := 90) (ty := .int) (a0 := (90, .inl (fun _ => 0))) X Aw_new (List.mem_cons_of_mem _ mw_104) rfl (fun _ => rfl) (by decide) (by decide) (by decide) (by decide) (cel_I hz) rfl (by decide) dX7_init_145 (fun ad12 q12 hk12 hq12 => ?_)
  have ht0_12 : ad12 0 = a0 := (hk12 0 (by decide)).trans ht0_11
  have ht1_12 : ad12 1 = q1 := (hk12 1 (by decide)).trans ht1_11
  have ht2_12 : ad12 2 = q2 := (hk12 2 (by decide)).trans ht2_11
  have ht3_12 : ad12 3 = q3 := (hk12 3 (by decide)).trans ht3_11
  have ht4_12 : ad12 4 = q4 := (hk12 4 (by decide)).trans ht4_11
  have ht5_12 : ad12 5 = q5 := (hk12 5 (by decide)).trans ht5_11
  have ht6_12 : ad12 6 = q6 := (hk12 6 (by decide)).trans ht6_11
  have ht7_12 : ad12 7 = q7 := (hk12 7 (by decide)).trans ht7_11
  have ht8_12 : ad12 8 = q8 := (hk12 8 (by decide)).trans ht8_11
  have ht9_12 : ad12 9 = q9 := (hk12 9 (by decide)).trans ht9_11
  have ht10_12 : ad12 10 = q10 := (hk12 10 (by decide)).trans ht10_11
  have ht11_12 : ad12 11 = q11 := (hk12 11 (by decide)).trans hq11
  have hc12 : ∀ k, k < sg_116.length → ad12 k = ad k := fun k hk => (hk12 k (Nat.lt_of_lt_of_le hk (by decide))).trans (hc11 k hk)
  replace hz : Zb (stI (stI (stI (stI (stI (stI (stI (stI (stI (stI (stI σ 0 0 1) 1 0 (-1)) 1 1 (-1)) 1 2 (-1)) 1 3 (-1)) 1 4 (-1)) 1 5 (-1)) 1 6 (-1)) 1 7 (-1)) 1 8 (-1)) 1 9 (-1)) 13 := Zb.mono hz (by decide)
  refine n_putR (shs := sg_139) (shs' := sg_140) (ty := .array .int) (z := 12) X (iXc7 _) (k := 0) rfl rfl 15 (by decide) tyX7 tyX7_ok nmX7 rfl hin rfl (List.mem_cons_of_mem _ mw_837) (by decide +kernel) rfl rfl (by decide) ht0_12 hq12 rfl dX7_init_147 ?_
  refine n_aload_n X dX7_init_150 0 rfl ?_
  refine n_bipush X dX7_init_151 (by decide) ?_
  refine n_arr (shs := sg_140) (shs' := sg_141) (atype := .int) (tg := 1) (n := 80) (ty := .int) (a0 := (80, .inl (fun _ => 0))) X Aw_new (List.mem_cons_of_mem _ mw_104) rfl (fun _ => rfl) (by decide) (by decide) (by decide) (by decide) (cel_I hz) rfl (by decide) dX7_init_153 (fun ad13 q13 hk13 hq13 => ?_)
  have ht0_13 : ad13 0 = a0 := (hk13 0 (by decide)).trans ht0_12
  have ht1_13 : ad13 1 = q1 := (hk13 1 (by decide)).trans ht1_12
  have ht2_13 : ad13 2 = q2 := (hk13 2 (by decide)).trans ht2_12
  have ht3_13 : ad13 3 = q3 := (hk13 3 (by decide)).trans ht3_12
  have ht4_13 : ad13 4 = q4 := (hk13 4 (by decide)).trans ht4_12
  have ht5_13 : ad13 5 = q5 := (hk13 5 (by decide)).trans ht5_12
  have ht6_13 : ad13 6 = q6 := (hk13 6 (by decide)).trans ht6_12
  have ht7_13 : ad13 7 = q7 := (hk13 7 (by decide)).trans ht7_12
  have ht8_13 : ad13 8 = q8 := (hk13 8 (by decide)).trans ht8_12
  have ht9_13 : ad13 9 = q9 := (hk13 9 (by decide)).trans ht9_12
  have ht10_13 : ad13 10 = q10 := (hk13 10 (by decide)).trans ht10_12
  have ht11_13 : ad13 11 = q11 := (hk13 11 (by decide)).trans ht11_12
  have ht12_13 : ad13 12 = q12 := (hk13 12 (by decide)).trans hq12
  have hc13 : ∀ k, k < sg_116.length → ad13 k = ad k := fun k hk => (hk13 k (Nat.lt_of_lt_of_le hk (by decide))).trans (hc12 k hk)
  replace hz : Zb (stI (stI (stI (stI (stI (stI (stI (stI (stI (stI (stI σ 0 0 1) 1 0 (-1)) 1 1 (-1)) 1 2 (-1)) 1 3 (-1)) 1 4 (-1)) 1 5 (-1)) 1 6 (-1)) 1 7 (-1)) 1 8 (-1)) 1 9 (-1)) 14 := Zb.mono hz (by decide)
  refine n_putR (shs := sg_141) (shs' := sg_142) (ty := .array .int) (z := 13) X (iXc7 _) (k := 0) rfl rfl 25 (by decide) tyX7 tyX7_ok nmX7 rfl hin rfl (List.mem_cons_of_mem _ mw_847) (by decide +kernel) rfl rfl (by decide) ht0_13 hq13 rfl dX7_init_155 ?_
  refine n_aload_n X dX7_init_158 0 rfl ?_
  refine n_bipush X dX7_init_159 (by decide) ?_
  refine n_arr (shs := sg_142) (shs' := sg_143) (atype := .int) (tg := 1) (n := 80) (ty := .int) (a0 := (80, .inl (fun _ => 0))) X Aw_new (List.mem_cons_of_mem _ mw_104) rfl (fun _ => rfl) (by decide) (by decide) (by decide) (by decide) (cel_I hz) rfl (by decide) dX7_init_161 (fun ad14 q14 hk14 hq14 => ?_)
  have ht0_14 : ad14 0 = a0 := (hk14 0 (by decide)).trans ht0_13
  have ht1_14 : ad14 1 = q1 := (hk14 1 (by decide)).trans ht1_13
  have ht2_14 : ad14 2 = q2 := (hk14 2 (by decide)).trans ht2_13
  have ht3_14 : ad14 3 = q3 := (hk14 3 (by decide)).trans ht3_13
  have ht4_14 : ad14 4 = q4 := (hk14 4 (by decide)).trans ht4_13
  have ht5_14 : ad14 5 = q5 := (hk14 5 (by decide)).trans ht5_13
  have ht6_14 : ad14 6 = q6 := (hk14 6 (by decide)).trans ht6_13
  have ht7_14 : ad14 7 = q7 := (hk14 7 (by decide)).trans ht7_13
  have ht8_14 : ad14 8 = q8 := (hk14 8 (by decide)).trans ht8_13
  have ht9_14 : ad14 9 = q9 := (hk14 9 (by decide)).trans ht9_13
  have ht10_14 : ad14 10 = q10 := (hk14 10 (by decide)).trans ht10_13
  have ht11_14 : ad14 11 = q11 := (hk14 11 (by decide)).trans ht11_13
  have ht12_14 : ad14 12 = q12 := (hk14 12 (by decide)).trans ht12_13
  have ht13_14 : ad14 13 = q13 := (hk14 13 (by decide)).trans hq13
  have hc14 : ∀ k, k < sg_116.length → ad14 k = ad k := fun k hk => (hk14 k (Nat.lt_of_lt_of_le hk (by decide))).trans (hc13 k hk)
  replace hz : Zb (stI (stI (stI (stI (stI (stI (stI (stI (stI (stI (stI σ 0 0 1) 1 0 (-1)) 1 1 (-1)) 1 2 (-1)) 1 3 (-1)) 1 4 (-1)) 1 5 (-1)) 1 6 (-1)) 1 7 (-1)) 1 8 (-1)) 1 9 (-1)) 15 := Zb.mono hz (by decide)
  refine n_putR (shs := sg_143) (shs' := sg_144) (ty := .array .int) (z := 14) X (iXc7 _) (k := 0) rfl rfl 26 (by decide) tyX7 tyX7_ok nmX7 rfl hin rfl (List.mem_cons_of_mem _ mw_848) (by decide +kernel) rfl rfl (by decide) ht0_14 hq14 rfl dX7_init_163 ?_
  refine n_aload_n X dX7_init_166 0 rfl ?_
  refine n_bipush X dX7_init_167 (by decide) ?_
  refine n_arr (shs := sg_144) (shs' := sg_145) (atype := .int) (tg := 1) (n := 80) (ty := .int) (a0 := (80, .inl (fun _ => 0))) X Aw_new (List.mem_cons_of_mem _ mw_104) rfl (fun _ => rfl) (by decide) (by decide) (by decide) (by decide) (cel_I hz) rfl (by decide) dX7_init_169 (fun ad15 q15 hk15 hq15 => ?_)
  have ht0_15 : ad15 0 = a0 := (hk15 0 (by decide)).trans ht0_14
  have ht1_15 : ad15 1 = q1 := (hk15 1 (by decide)).trans ht1_14
  have ht2_15 : ad15 2 = q2 := (hk15 2 (by decide)).trans ht2_14
  have ht3_15 : ad15 3 = q3 := (hk15 3 (by decide)).trans ht3_14
  have ht4_15 : ad15 4 = q4 := (hk15 4 (by decide)).trans ht4_14
  have ht5_15 : ad15 5 = q5 := (hk15 5 (by decide)).trans ht5_14
  have ht6_15 : ad15 6 = q6 := (hk15 6 (by decide)).trans ht6_14
  have ht7_15 : ad15 7 = q7 := (hk15 7 (by decide)).trans ht7_14
  have ht8_15 : ad15 8 = q8 := (hk15 8 (by decide)).trans ht8_14
  have ht9_15 : ad15 9 = q9 := (hk15 9 (by decide)).trans ht9_14
  have ht10_15 : ad15 10 = q10 := (hk15 10 (by decide)).trans ht10_14
  have ht11_15 : ad15 11 = q11 := (hk15 11 (by decide)).trans ht11_14
  have ht12_15 : ad15 12 = q12 := (hk15 12 (by decide)).trans ht12_14
  have ht13_15 : ad15 13 = q13 := (hk15 13 (by decide)).trans ht13_14
  have ht14_15 : ad15 14 = q14 := (hk15 14 (by decide)).trans hq14
  have hc15 : ∀ k, k < sg_116.length → ad15 k = ad k := fun k hk => (hk15 k (Nat.lt_of_lt_of_le hk (by decide))).trans (hc14 k hk)
  replace hz : Zb (stI (stI (stI (stI (stI (stI (stI (stI (stI (stI (stI σ 0 0 1) 1 0 (-1)) 1 1 (-1)) 1 2 (-1)) 1 3 (-1)) 1 4 (-1)) 1 5 (-1)) 1 6 (-1)) 1 7 (-1)) 1 8 (-1)) 1 9 (-1)) 16 := Zb.mono hz (by decide)
  refine n_putR (shs := sg_145) (shs' := sg_146) (ty := .array .int) (z := 15) X (iXc7 _) (k := 0) rfl rfl 27 (by decide) tyX7 tyX7_ok nmX7 rfl hin rfl (List.mem_cons_of_mem _ mw_849) (by decide +kernel) rfl rfl (by decide) ht0_15 hq15 rfl dX7_init_171 ?_
  refine n_aload_n X dX7_init_174 0 rfl ?_
  refine n_sipush X dX7_init_175 (by decide) ?_
  refine n_arr (shs := sg_146) (shs' := sg_147) (atype := .long) (tg := 2) (n := 640) (ty := .long) (a0 := (640, .inr (.inl (fun _ => 0)))) X Aw_new (List.mem_cons_of_mem _ mw_156) rfl (fun _ => rfl) (by decide) (by decide) (by decide) (by decide) (cel_J hz) rfl (by decide) dX7_init_178 (fun ad16 q16 hk16 hq16 => ?_)
  have ht0_16 : ad16 0 = a0 := (hk16 0 (by decide)).trans ht0_15
  have ht1_16 : ad16 1 = q1 := (hk16 1 (by decide)).trans ht1_15
  have ht2_16 : ad16 2 = q2 := (hk16 2 (by decide)).trans ht2_15
  have ht3_16 : ad16 3 = q3 := (hk16 3 (by decide)).trans ht3_15
  have ht4_16 : ad16 4 = q4 := (hk16 4 (by decide)).trans ht4_15
  have ht5_16 : ad16 5 = q5 := (hk16 5 (by decide)).trans ht5_15
  have ht6_16 : ad16 6 = q6 := (hk16 6 (by decide)).trans ht6_15
  have ht7_16 : ad16 7 = q7 := (hk16 7 (by decide)).trans ht7_15
  have ht8_16 : ad16 8 = q8 := (hk16 8 (by decide)).trans ht8_15
  have ht9_16 : ad16 9 = q9 := (hk16 9 (by decide)).trans ht9_15
  have ht10_16 : ad16 10 = q10 := (hk16 10 (by decide)).trans ht10_15
  have ht11_16 : ad16 11 = q11 := (hk16 11 (by decide)).trans ht11_15
  have ht12_16 : ad16 12 = q12 := (hk16 12 (by decide)).trans ht12_15
  have ht13_16 : ad16 13 = q13 := (hk16 13 (by decide)).trans ht13_15
  have ht14_16 : ad16 14 = q14 := (hk16 14 (by decide)).trans ht14_15
  have ht15_16 : ad16 15 = q15 := (hk16 15 (by decide)).trans hq15
  have hc16 : ∀ k, k < sg_116.length → ad16 k = ad k := fun k hk => (hk16 k (Nat.lt_of_lt_of_le hk (by decide))).trans (hc15 k hk)
  replace hz : Zb (stI (stI (stI (stI (stI (stI (stI (stI (stI (stI (stI σ 0 0 1) 1 0 (-1)) 1 1 (-1)) 1 2 (-1)) 1 3 (-1)) 1 4 (-1)) 1 5 (-1)) 1 6 (-1)) 1 7 (-1)) 1 8 (-1)) 1 9 (-1)) 17 := Zb.mono hz (by decide)
  refine n_putR (shs := sg_147) (shs' := sg_148) (ty := .array .long) (z := 16) X (iXc7 _) (k := 0) rfl rfl 28 (by decide) tyX7 tyX7_ok nmX7 rfl hin rfl (List.mem_cons_of_mem _ mw_850) (by decide +kernel) rfl rfl (by decide) ht0_16 hq16 rfl dX7_init_180 ?_
  refine n_aload_n X dX7_init_183 0 rfl ?_
  refine n_bipush X dX7_init_184 (by decide) ?_
  refine n_arr (shs := sg_148) (shs' := sg_149) (atype := .int) (tg := 1) (n := 60) (ty := .int) (a0 := (60, .inl (fun _ => 0))) X Aw_new (List.mem_cons_of_mem _ mw_104) rfl (fun _ => rfl) (by decide) (by decide) (by decide) (by decide) (cel_I hz) rfl (by decide) dX7_init_186 (fun ad17 q17 hk17 hq17 => ?_)
  have ht0_17 : ad17 0 = a0 := (hk17 0 (by decide)).trans ht0_16
  have ht1_17 : ad17 1 = q1 := (hk17 1 (by decide)).trans ht1_16
  have ht2_17 : ad17 2 = q2 := (hk17 2 (by decide)).trans ht2_16
  have ht3_17 : ad17 3 = q3 := (hk17 3 (by decide)).trans ht3_16
  have ht4_17 : ad17 4 = q4 := (hk17 4 (by decide)).trans ht4_16
  have ht5_17 : ad17 5 = q5 := (hk17 5 (by decide)).trans ht5_16
  have ht6_17 : ad17 6 = q6 := (hk17 6 (by decide)).trans ht6_16
  have ht7_17 : ad17 7 = q7 := (hk17 7 (by decide)).trans ht7_16
  have ht8_17 : ad17 8 = q8 := (hk17 8 (by decide)).trans ht8_16
  have ht9_17 : ad17 9 = q9 := (hk17 9 (by decide)).trans ht9_16
  have ht10_17 : ad17 10 = q10 := (hk17 10 (by decide)).trans ht10_16
  have ht11_17 : ad17 11 = q11 := (hk17 11 (by decide)).trans ht11_16
  have ht12_17 : ad17 12 = q12 := (hk17 12 (by decide)).trans ht12_16
  have ht13_17 : ad17 13 = q13 := (hk17 13 (by decide)).trans ht13_16
  have ht14_17 : ad17 14 = q14 := (hk17 14 (by decide)).trans ht14_16
  have ht15_17 : ad17 15 = q15 := (hk17 15 (by decide)).trans ht15_16
  have ht16_17 : ad17 16 = q16 := (hk17 16 (by decide)).trans hq16
  have hc17 : ∀ k, k < sg_116.length → ad17 k = ad k := fun k hk => (hk17 k (Nat.lt_of_lt_of_le hk (by decide))).trans (hc16 k hk)
  replace hz : Zb (stI (stI (stI (stI (stI (stI (stI (stI (stI (stI (stI σ 0 0 1) 1 0 (-1)) 1 1 (-1)) 1 2 (-1)) 1 3 (-1)) 1 4 (-1)) 1 5 (-1)) 1 6 (-1)) 1 7 (-1)) 1 8 (-1)) 1 9 (-1)) 18 := Zb.mono hz (by decide)
  refine n_putR (shs := sg_149) (shs' := sg_150) (ty := .array .int) (z := 17) X (iXc7 _) (k := 0) rfl rfl 30 (by decide) tyX7 tyX7_ok nmX7 rfl hin rfl (List.mem_cons_of_mem _ mw_852) (by decide +kernel) rfl rfl (by decide) ht0_17 hq17 rfl dX7_init_188 ?_
  refine n_aload_n X dX7_init_191 0 rfl ?_
  refine n_bipush X dX7_init_192 (by decide) ?_
  refine n_arr (shs := sg_150) (shs' := sg_151) (atype := .int) (tg := 1) (n := 60) (ty := .int) (a0 := (60, .inl (fun _ => 0))) X Aw_new (List.mem_cons_of_mem _ mw_104) rfl (fun _ => rfl) (by decide) (by decide) (by decide) (by decide) (cel_I hz) rfl (by decide) dX7_init_194 (fun ad18 q18 hk18 hq18 => ?_)
  have ht0_18 : ad18 0 = a0 := (hk18 0 (by decide)).trans ht0_17
  have ht1_18 : ad18 1 = q1 := (hk18 1 (by decide)).trans ht1_17
  have ht2_18 : ad18 2 = q2 := (hk18 2 (by decide)).trans ht2_17
  have ht3_18 : ad18 3 = q3 := (hk18 3 (by decide)).trans ht3_17
  have ht4_18 : ad18 4 = q4 := (hk18 4 (by decide)).trans ht4_17
  have ht5_18 : ad18 5 = q5 := (hk18 5 (by decide)).trans ht5_17
  have ht6_18 : ad18 6 = q6 := (hk18 6 (by decide)).trans ht6_17
  have ht7_18 : ad18 7 = q7 := (hk18 7 (by decide)).trans ht7_17
  have ht8_18 : ad18 8 = q8 := (hk18 8 (by decide)).trans ht8_17
  have ht9_18 : ad18 9 = q9 := (hk18 9 (by decide)).trans ht9_17
  have ht10_18 : ad18 10 = q10 := (hk18 10 (by decide)).trans ht10_17
  have ht11_18 : ad18 11 = q11 := (hk18 11 (by decide)).trans ht11_17
  have ht12_18 : ad18 12 = q12 := (hk18 12 (by decide)).trans ht12_17
  have ht13_18 : ad18 13 = q13 := (hk18 13 (by decide)).trans ht13_17
  have ht14_18 : ad18 14 = q14 := (hk18 14 (by decide)).trans ht14_17
  have ht15_18 : ad18 15 = q15 := (hk18 15 (by decide)).trans ht15_17
  have ht16_18 : ad18 16 = q16 := (hk18 16 (by decide)).trans ht16_17
  have ht17_18 : ad18 17 = q17 := (hk18 17 (by decide)).trans hq17
  have hc18 : ∀ k, k < sg_116.length → ad18 k = ad k := fun k hk => (hk18 k (Nat.lt_of_lt_of_le hk (by decide))).trans (hc17 k hk)
  replace hz : Zb (stI (stI (stI (stI (stI (stI (stI (stI (stI (stI (stI σ 0 0 1) 1 0 (-1)) 1 1 (-1)) 1 2 (-1)) 1 3 (-1)) 1 4 (-1)) 1 5 (-1)) 1 6 (-1)) 1 7 (-1)) 1 8 (-1)) 1 9 (-1)) 19 := Zb.mono hz (by decide)
  refine n_putR (shs := sg_151) (shs' := sg_152) (ty := .array .int) (z := 18) X (iXc7 _) (k := 0) rfl rfl 31 (by decide) tyX7 tyX7_ok nmX7 rfl hin rfl (List.mem_cons_of_mem _ mw_853) (by decide +kernel) rfl rfl (by decide) ht0_18 hq18 rfl dX7_init_196 ?_
  refine n_aload_n X dX7_init_199 0 rfl ?_
  refine n_sipush X dX7_init_200 (by decide) ?_
  refine n_arr (shs := sg_152) (shs' := sg_153) (atype := .long) (tg := 2) (n := 300) (ty := .long) (a0 := (300, .inr (.inl (fun _ => 0)))) X Aw_new (List.mem_cons_of_mem _ mw_156) rfl (fun _ => rfl) (by decide) (by decide) (by decide) (by decide) (cel_J hz) rfl (by decide) dX7_init_203 (fun ad19 q19 hk19 hq19 => ?_)
  have ht0_19 : ad19 0 = a0 := (hk19 0 (by decide)).trans ht0_18
  have ht1_19 : ad19 1 = q1 := (hk19 1 (by decide)).trans ht1_18
  have ht2_19 : ad19 2 = q2 := (hk19 2 (by decide)).trans ht2_18
  have ht3_19 : ad19 3 = q3 := (hk19 3 (by decide)).trans ht3_18
  have ht4_19 : ad19 4 = q4 := (hk19 4 (by decide)).trans ht4_18
  have ht5_19 : ad19 5 = q5 := (hk19 5 (by decide)).trans ht5_18
  have ht6_19 : ad19 6 = q6 := (hk19 6 (by decide)).trans ht6_18
  have ht7_19 : ad19 7 = q7 := (hk19 7 (by decide)).trans ht7_18
  have ht8_19 : ad19 8 = q8 := (hk19 8 (by decide)).trans ht8_18
  have ht9_19 : ad19 9 = q9 := (hk19 9 (by decide)).trans ht9_18
  have ht10_19 : ad19 10 = q10 := (hk19 10 (by decide)).trans ht10_18
  have ht11_19 : ad19 11 = q11 := (hk19 11 (by decide)).trans ht11_18
  have ht12_19 : ad19 12 = q12 := (hk19 12 (by decide)).trans ht12_18
  have ht13_19 : ad19 13 = q13 := (hk19 13 (by decide)).trans ht13_18
  have ht14_19 : ad19 14 = q14 := (hk19 14 (by decide)).trans ht14_18
  have ht15_19 : ad19 15 = q15 := (hk19 15 (by decide)).trans ht15_18
  have ht16_19 : ad19 16 = q16 := (hk19 16 (by decide)).trans ht16_18
  have ht17_19 : ad19 17 = q17 := (hk19 17 (by decide)).trans ht17_18
  have ht18_19 : ad19 18 = q18 := (hk19 18 (by decide)).trans hq18
  have hc19 : ∀ k, k < sg_116.length → ad19 k = ad k := fun k hk => (hk19 k (Nat.lt_of_lt_of_le hk (by decide))).trans (hc18 k hk)
  replace hz : Zb (stI (stI (stI (stI (stI (stI (stI (stI (stI (stI (stI σ 0 0 1) 1 0 (-1)) 1 1 (-1)) 1 2 (-1)) 1 3 (-1)) 1 4 (-1)) 1 5 (-1)) 1 6 (-1)) 1 7 (-1)) 1 8 (-1)) 1 9 (-1)) 20 := Zb.mono hz (by decide)
  refine n_putR (shs := sg_153) (shs' := sg_154) (ty := .array .long) (z := 19) X (iXc7 _) (k := 0) rfl rfl 32 (by decide) tyX7 tyX7_ok nmX7 rfl hin rfl (List.mem_cons_of_mem _ mw_854) (by decide +kernel) rfl rfl (by decide) ht0_19 hq19 rfl dX7_init_205 ?_
  refine n_aload_n X dX7_init_208 0 rfl ?_
  refine n_iconst X dX7_init_209 ?_
  refine n_arr (shs := sg_154) (shs' := sg_155) (atype := .long) (tg := 2) (n := 4) (ty := .long) (a0 := (4, .inr (.inl (fun _ => 0)))) X Aw_new (List.mem_cons_of_mem _ mw_156) rfl (fun _ => rfl) (by decide) (by decide) (by decide) (by decide) (cel_J hz) rfl (by decide) dX7_init_210 (fun ad20 q20 hk20 hq20 => ?_)
  have ht0_20 : ad20 0 = a0 := (hk20 0 (by decide)).trans ht0_19
  have ht1_20 : ad20 1 = q1 := (hk20 1 (by decide)).trans ht1_19
  have ht2_20 : ad20 2 = q2 := (hk20 2 (by decide)).trans ht2_19
  have ht3_20 : ad20 3 = q3 := (hk20 3 (by decide)).trans ht3_19
  have ht4_20 : ad20 4 = q4 := (hk20 4 (by decide)).trans ht4_19
  have ht5_20 : ad20 5 = q5 := (hk20 5 (by decide)).trans ht5_19
  have ht6_20 : ad20 6 = q6 := (hk20 6 (by decide)).trans ht6_19
  have ht7_20 : ad20 7 = q7 := (hk20 7 (by decide)).trans ht7_19
  have ht8_20 : ad20 8 = q8 := (hk20 8 (by decide)).trans ht8_19
  have ht9_20 : ad20 9 = q9 := (hk20 9 (by decide)).trans ht9_19
  have ht10_20 : ad20 10 = q10 := (hk20 10 (by decide)).trans ht10_19
  have ht11_20 : ad20 11 = q11 := (hk20 11 (by decide)).trans ht11_19
  have ht12_20 : ad20 12 = q12 := (hk20 12 (by decide)).trans ht12_19
  have ht13_20 : ad20 13 = q13 := (hk20 13 (by decide)).trans ht13_19
  have ht14_20 : ad20 14 = q14 := (hk20 14 (by decide)).trans ht14_19
  have ht15_20 : ad20 15 = q15 := (hk20 15 (by decide)).trans ht15_19
  have ht16_20 : ad20 16 = q16 := (hk20 16 (by decide)).trans ht16_19
  have ht17_20 : ad20 17 = q17 := (hk20 17 (by decide)).trans ht17_19
  have ht18_20 : ad20 18 = q18 := (hk20 18 (by decide)).trans ht18_19
  have ht19_20 : ad20 19 = q19 := (hk20 19 (by decide)).trans hq19
  have hc20 : ∀ k, k < sg_116.length → ad20 k = ad k := fun k hk => (hk20 k (Nat.lt_of_lt_of_le hk (by decide))).trans (hc19 k hk)
  replace hz : Zb (stI (stI (stI (stI (stI (stI (stI (stI (stI (stI (stI σ 0 0 1) 1 0 (-1)) 1 1 (-1)) 1 2 (-1)) 1 3 (-1)) 1 4 (-1)) 1 5 (-1)) 1 6 (-1)) 1 7 (-1)) 1 8 (-1)) 1 9 (-1)) 21 := Zb.mono hz (by decide)
  refine n_putR (shs := sg_155) (shs' := sg_156) (ty := .array .long) (z := 20) X (iXc7 _) (k := 0) rfl rfl 33 (by decide) tyX7 tyX7_ok nmX7 rfl hin rfl (List.mem_cons_of_mem _ mw_855) (by decide +kernel) rfl rfl (by decide) ht0_20 hq20 rfl dX7_init_212 ?_
  refine n_aload_n X dX7_init_215 0 rfl ?_
  refine n_sipush X dX7_init_216 (by decide) ?_
  refine n_arr (shs := sg_156) (shs' := sg_157) (atype := .int) (tg := 1) (n := 300) (ty := .int) (a0 := (300, .inl (fun _ => 0))) X Aw_new (List.mem_cons_of_mem _ mw_104) rfl (fun _ => rfl) (by decide) (by decide) (by decide) (by decide) (cel_I hz) rfl (by decide) dX7_init_219 (fun ad21 q21 hk21 hq21 => ?_)
  have ht0_21 : ad21 0 = a0 := (hk21 0 (by decide)).trans ht0_20
  have ht1_21 : ad21 1 = q1 := (hk21 1 (by decide)).trans ht1_20
  have ht2_21 : ad21 2 = q2 := (hk21 2 (by decide)).trans ht2_20
  have ht3_21 : ad21 3 = q3 := (hk21 3 (by decide)).trans ht3_20
  have ht4_21 : ad21 4 = q4 := (hk21 4 (by decide)).trans ht4_20
  have ht5_21 : ad21 5 = q5 := (hk21 5 (by decide)).trans ht5_20
  have ht6_21 : ad21 6 = q6 := (hk21 6 (by decide)).trans ht6_20
  have ht7_21 : ad21 7 = q7 := (hk21 7 (by decide)).trans ht7_20
  have ht8_21 : ad21 8 = q8 := (hk21 8 (by decide)).trans ht8_20
  have ht9_21 : ad21 9 = q9 := (hk21 9 (by decide)).trans ht9_20
  have ht10_21 : ad21 10 = q10 := (hk21 10 (by decide)).trans ht10_20
  have ht11_21 : ad21 11 = q11 := (hk21 11 (by decide)).trans ht11_20
  have ht12_21 : ad21 12 = q12 := (hk21 12 (by decide)).trans ht12_20
  have ht13_21 : ad21 13 = q13 := (hk21 13 (by decide)).trans ht13_20
  have ht14_21 : ad21 14 = q14 := (hk21 14 (by decide)).trans ht14_20
  have ht15_21 : ad21 15 = q15 := (hk21 15 (by decide)).trans ht15_20
  have ht16_21 : ad21 16 = q16 := (hk21 16 (by decide)).trans ht16_20
  have ht17_21 : ad21 17 = q17 := (hk21 17 (by decide)).trans ht17_20
  have ht18_21 : ad21 18 = q18 := (hk21 18 (by decide)).trans ht18_20
  have ht19_21 : ad21 19 = q19 := (hk21 19 (by decide)).trans ht19_20
  have ht20_21 : ad21 20 = q20 := (hk21 20 (by decide)).trans hq20
  have hc21 : ∀ k, k < sg_116.length → ad21 k = ad k := fun k hk => (hk21 k (Nat.lt_of_lt_of_le hk (by decide))).trans (hc20 k hk)
  replace hz : Zb (stI (stI (stI (stI (stI (stI (stI (stI (stI (stI (stI σ 0 0 1) 1 0 (-1)) 1 1 (-1)) 1 2 (-1)) 1 3 (-1)) 1 4 (-1)) 1 5 (-1)) 1 6 (-1)) 1 7 (-1)) 1 8 (-1)) 1 9 (-1)) 22 := Zb.mono hz (by decide)
  refine n_putR (shs := sg_157) (shs' := sg_158) (ty := .array .int) (z := 21) X (iXc7 _) (k := 0) rfl rfl 47 (by decide) tyX7 tyX7_ok nmX7 rfl hin rfl (List.mem_cons_of_mem _ mw_869) (by decide +kernel) rfl rfl (by decide) ht0_21 hq21 rfl dX7_init_221 ?_
  refine n_aload_n X dX7_init_224 0 rfl ?_
  refine n_sipush X dX7_init_225 (by decide) ?_
  refine n_arr (shs := sg_158) (shs' := sg_159) (atype := .int) (tg := 1) (n := 300) (ty := .int) (a0 := (300, .inl (fun _ => 0))) X Aw_new (List.mem_cons_of_mem _ mw_104) rfl (fun _ => rfl) (by decide) (by decide) (by decide) (by decide) (cel_I hz) rfl (by decide) dX7_init_228 (fun ad22 q22 hk22 hq22 => ?_)
  have ht0_22 : ad22 0 = a0 := (hk22 0 (by decide)).trans ht0_21
  have ht1_22 : ad22 1 = q1 := (hk22 1 (by decide)).trans ht1_21
  have ht2_22 : ad22 2 = q2 := (hk22 2 (by decide)).trans ht2_21
  have ht3_22 : ad22 3 = q3 := (hk22 3 (by decide)).trans ht3_21
  have ht4_22 : ad22 4 = q4 := (hk22 4 (by decide)).trans ht4_21
  have ht5_22 : ad22 5 = q5 := (hk22 5 (by decide)).trans ht5_21
  have ht6_22 : ad22 6 = q6 := (hk22 6 (by decide)).trans ht6_21
  have ht7_22 : ad22 7 = q7 := (hk22 7 (by decide)).trans ht7_21
  have ht8_22 : ad22 8 = q8 := (hk22 8 (by decide)).trans ht8_21
  have ht9_22 : ad22 9 = q9 := (hk22 9 (by decide)).trans ht9_21
  have ht10_22 : ad22 10 = q10 := (hk22 10 (by decide)).trans ht10_21
  have ht11_22 : ad22 11 = q11 := (hk22 11 (by decide)).trans ht11_21
  have ht12_22 : ad22 12 = q12 := (hk22 12 (by decide)).trans ht12_21
  have ht13_22 : ad22 13 = q13 := (hk22 13 (by decide)).trans ht13_21
  have ht14_22 : ad22 14 = q14 := (hk22 14 (by decide)).trans ht14_21
  have ht15_22 : ad22 15 = q15 := (hk22 15 (by decide)).trans ht15_21
  have ht16_22 : ad22 16 = q16 := (hk22 16 (by decide)).trans ht16_21
  have ht17_22 : ad22 17 = q17 := (hk22 17 (by decide)).trans ht17_21
  have ht18_22 : ad22 18 = q18 := (hk22 18 (by decide)).trans ht18_21
  have ht19_22 : ad22 19 = q19 := (hk22 19 (by decide)).trans ht19_21
  have ht20_22 : ad22 20 = q20 := (hk22 20 (by decide)).trans ht20_21
  have ht21_22 : ad22 21 = q21 := (hk22 21 (by decide)).trans hq21
  have hc22 : ∀ k, k < sg_116.length → ad22 k = ad k := fun k hk => (hk22 k (Nat.lt_of_lt_of_le hk (by decide))).trans (hc21 k hk)
  replace hz : Zb (stI (stI (stI (stI (stI (stI (stI (stI (stI (stI (stI σ 0 0 1) 1 0 (-1)) 1 1 (-1)) 1 2 (-1)) 1 3 (-1)) 1 4 (-1)) 1 5 (-1)) 1 6 (-1)) 1 7 (-1)) 1 8 (-1)) 1 9 (-1)) 23 := Zb.mono hz (by decide)
  refine n_putR (shs := sg_159) (shs' := sg_160) (ty := .array .int) (z := 22) X (iXc7 _) (k := 0) rfl rfl 48 (by decide) tyX7 tyX7_ok nmX7 rfl hin rfl (List.mem_cons_of_mem _ mw_870) (by decide +kernel) rfl rfl (by decide) ht0_22 hq22 rfl dX7_init_230 ?_
  refine n_aload_n X dX7_init_233 0 rfl ?_
  refine n_sipush X dX7_init_234 (by decide) ?_
  refine n_arr (shs := sg_160) (shs' := sg_161) (atype := .int) (tg := 1) (n := 300) (ty := .int) (a0 := (300, .inl (fun _ => 0))) X Aw_new (List.mem_cons_of_mem _ mw_104) rfl (fun _ => rfl) (by decide) (by decide) (by decide) (by decide) (cel_I hz) rfl (by decide) dX7_init_237 (fun ad23 q23 hk23 hq23 => ?_)
  have ht0_23 : ad23 0 = a0 := (hk23 0 (by decide)).trans ht0_22
  have ht1_23 : ad23 1 = q1 := (hk23 1 (by decide)).trans ht1_22
  have ht2_23 : ad23 2 = q2 := (hk23 2 (by decide)).trans ht2_22
  have ht3_23 : ad23 3 = q3 := (hk23 3 (by decide)).trans ht3_22
  have ht4_23 : ad23 4 = q4 := (hk23 4 (by decide)).trans ht4_22
  have ht5_23 : ad23 5 = q5 := (hk23 5 (by decide)).trans ht5_22
  have ht6_23 : ad23 6 = q6 := (hk23 6 (by decide)).trans ht6_22
  have ht7_23 : ad23 7 = q7 := (hk23 7 (by decide)).trans ht7_22
  have ht8_23 : ad23 8 = q8 := (hk23 8 (by decide)).trans ht8_22
  have ht9_23 : ad23 9 = q9 := (hk23 9 (by decide)).trans ht9_22
  have ht10_23 : ad23 10 = q10 := (hk23 10 (by decide)).trans ht10_22
  have ht11_23 : ad23 11 = q11 := (hk23 11 (by decide)).trans ht11_22
  have ht12_23 : ad23 12 = q12 := (hk23 12 (by decide)).trans ht12_22
  have ht13_23 : ad23 13 = q13 := (hk23 13 (by decide)).trans ht13_22
  have ht14_23 : ad23 14 = q14 := (hk23 14 (by decide)).trans ht14_22
  have ht15_23 : ad23 15 = q15 := (hk23 15 (by decide)).trans ht15_22
  have ht16_23 : ad23 16 = q16 := (hk23 16 (by decide)).trans ht16_22
  have ht17_23 : ad23 17 = q17 := (hk23 17 (by decide)).trans ht17_22
  have ht18_23 : ad23 18 = q18 := (hk23 18 (by decide)).trans ht18_22
  have ht19_23 : ad23 19 = q19 := (hk23 19 (by decide)).trans ht19_22
  have ht20_23 : ad23 20 = q20 := (hk23 20 (by decide)).trans ht20_22
  have ht21_23 : ad23 21 = q21 := (hk23 21 (by decide)).trans ht21_22
  have ht22_23 : ad23 22 = q22 := (hk23 22 (by decide)).trans hq22
  have hc23 : ∀ k, k < sg_116.length → ad23 k = ad k := fun k hk => (hk23 k (Nat.lt_of_lt_of_le hk (by decide))).trans (hc22 k hk)
  replace hz : Zb (stI (stI (stI (stI (stI (stI (stI (stI (stI (stI (stI σ 0 0 1) 1 0 (-1)) 1 1 (-1)) 1 2 (-1)) 1 3 (-1)) 1 4 (-1)) 1 5 (-1)) 1 6 (-1)) 1 7 (-1)) 1 8 (-1)) 1 9 (-1)) 24 := Zb.mono hz (by decide)
  refine n_putR (shs := sg_161) (shs' := sg_162) (ty := .array .int) (z := 23) X (iXc7 _) (k := 0) rfl rfl 49 (by decide) tyX7 tyX7_ok nmX7 rfl hin rfl (List.mem_cons_of_mem _ mw_871) (by decide +kernel) rfl rfl (by decide) ht0_23 hq23 rfl dX7_init_239 ?_
  refine n_aload_n X dX7_init_242 0 rfl ?_
  refine n_sipush X dX7_init_243 (by decide) ?_
  refine n_arr (shs := sg_162) (shs' := sg_163) (atype := .int) (tg := 1) (n := 1500) (ty := .int) (a0 := (1500, .inl (fun _ => 0))) X Aw_new (List.mem_cons_of_mem _ mw_104) rfl (fun _ => rfl) (by decide) (by decide) (by decide) (by decide) (cel_I hz) rfl (by decide) dX7_init_246 (fun ad24 q24 hk24 hq24 => ?_)
  have ht0_24 : ad24 0 = a0 := (hk24 0 (by decide)).trans ht0_23
  have ht1_24 : ad24 1 = q1 := (hk24 1 (by decide)).trans ht1_23
  have ht2_24 : ad24 2 = q2 := (hk24 2 (by decide)).trans ht2_23
  have ht3_24 : ad24 3 = q3 := (hk24 3 (by decide)).trans ht3_23
  have ht4_24 : ad24 4 = q4 := (hk24 4 (by decide)).trans ht4_23
  have ht5_24 : ad24 5 = q5 := (hk24 5 (by decide)).trans ht5_23
  have ht6_24 : ad24 6 = q6 := (hk24 6 (by decide)).trans ht6_23
  have ht7_24 : ad24 7 = q7 := (hk24 7 (by decide)).trans ht7_23
  have ht8_24 : ad24 8 = q8 := (hk24 8 (by decide)).trans ht8_23
  have ht9_24 : ad24 9 = q9 := (hk24 9 (by decide)).trans ht9_23
  have ht10_24 : ad24 10 = q10 := (hk24 10 (by decide)).trans ht10_23
  have ht11_24 : ad24 11 = q11 := (hk24 11 (by decide)).trans ht11_23
  have ht12_24 : ad24 12 = q12 := (hk24 12 (by decide)).trans ht12_23
  have ht13_24 : ad24 13 = q13 := (hk24 13 (by decide)).trans ht13_23
  have ht14_24 : ad24 14 = q14 := (hk24 14 (by decide)).trans ht14_23
  have ht15_24 : ad24 15 = q15 := (hk24 15 (by decide)).trans ht15_23
  have ht16_24 : ad24 16 = q16 := (hk24 16 (by decide)).trans ht16_23
  have ht17_24 : ad24 17 = q17 := (hk24 17 (by decide)).trans ht17_23
  have ht18_24 : ad24 18 = q18 := (hk24 18 (by decide)).trans ht18_23
  have ht19_24 : ad24 19 = q19 := (hk24 19 (by decide)).trans ht19_23
  have ht20_24 : ad24 20 = q20 := (hk24 20 (by decide)).trans ht20_23
  have ht21_24 : ad24 21 = q21 := (hk24 21 (by decide)).trans ht21_23
  have ht22_24 : ad24 22 = q22 := (hk24 22 (by decide)).trans ht22_23
  have ht23_24 : ad24 23 = q23 := (hk24 23 (by decide)).trans hq23
  have hc24 : ∀ k, k < sg_116.length → ad24 k = ad k := fun k hk => (hk24 k (Nat.lt_of_lt_of_le hk (by decide))).trans (hc23 k hk)
  replace hz : Zb (stI (stI (stI (stI (stI (stI (stI (stI (stI (stI (stI σ 0 0 1) 1 0 (-1)) 1 1 (-1)) 1 2 (-1)) 1 3 (-1)) 1 4 (-1)) 1 5 (-1)) 1 6 (-1)) 1 7 (-1)) 1 8 (-1)) 1 9 (-1)) 25 := Zb.mono hz (by decide)
  refine n_putR (shs := sg_163) (shs' := sg_164) (ty := .array .int) (z := 24) X (iXc7 _) (k := 0) rfl rfl 50 (by decide) tyX7 tyX7_ok nmX7 rfl hin rfl (List.mem_cons_of_mem _ mw_872) (by decide +kernel) rfl rfl (by decide) ht0_24 hq24 rfl dX7_init_248 ?_
  refine n_aload_n X dX7_init_251 0 rfl ?_
  refine n_iconst X dX7_init_252 ?_
  refine n_arr (shs := sg_164) (shs' := sg_165) (atype := .int) (tg := 1) (n := 4) (ty := .int) (a0 := (4, .inl (fun _ => 0))) X Aw_new (List.mem_cons_of_mem _ mw_104) rfl (fun _ => rfl) (by decide) (by decide) (by decide) (by decide) (cel_I hz) rfl (by decide) dX7_init_253 (fun ad25 q25 hk25 hq25 => ?_)
  have ht0_25 : ad25 0 = a0 := (hk25 0 (by decide)).trans ht0_24
  have ht1_25 : ad25 1 = q1 := (hk25 1 (by decide)).trans ht1_24
  have ht2_25 : ad25 2 = q2 := (hk25 2 (by decide)).trans ht2_24
  have ht3_25 : ad25 3 = q3 := (hk25 3 (by decide)).trans ht3_24
  have ht4_25 : ad25 4 = q4 := (hk25 4 (by decide)).trans ht4_24
  have ht5_25 : ad25 5 = q5 := (hk25 5 (by decide)).trans ht5_24
  have ht6_25 : ad25 6 = q6 := (hk25 6 (by decide)).trans ht6_24
  have ht7_25 : ad25 7 = q7 := (hk25 7 (by decide)).trans ht7_24
  have ht8_25 : ad25 8 = q8 := (hk25 8 (by decide)).trans ht8_24
  have ht9_25 : ad25 9 = q9 := (hk25 9 (by decide)).trans ht9_24
  have ht10_25 : ad25 10 = q10 := (hk25 10 (by decide)).trans ht10_24
  have ht11_25 : ad25 11 = q11 := (hk25 11 (by decide)).trans ht11_24
  have ht12_25 : ad25 12 = q12 := (hk25 12 (by decide)).trans ht12_24
  have ht13_25 : ad25 13 = q13 := (hk25 13 (by decide)).trans ht13_24
  have ht14_25 : ad25 14 = q14 := (hk25 14 (by decide)).trans ht14_24
  have ht15_25 : ad25 15 = q15 := (hk25 15 (by decide)).trans ht15_24
  have ht16_25 : ad25 16 = q16 := (hk25 16 (by decide)).trans ht16_24
  have ht17_25 : ad25 17 = q17 := (hk25 17 (by decide)).trans ht17_24
  have ht18_25 : ad25 18 = q18 := (hk25 18 (by decide)).trans ht18_24
  have ht19_25 : ad25 19 = q19 := (hk25 19 (by decide)).trans ht19_24
  have ht20_25 : ad25 20 = q20 := (hk25 20 (by decide)).trans ht20_24
  have ht21_25 : ad25 21 = q21 := (hk25 21 (by decide)).trans ht21_24
  have ht22_25 : ad25 22 = q22 := (hk25 22 (by decide)).trans ht22_24
  have ht23_25 : ad25 23 = q23 := (hk25 23 (by decide)).trans ht23_24
  have ht24_25 : ad25 24 = q24 := (hk25 24 (by decide)).trans hq24
  have hc25 : ∀ k, k < sg_116.length → ad25 k = ad k := fun k hk => (hk25 k (Nat.lt_of_lt_of_le hk (by decide))).trans (hc24 k hk)
  replace hz : Zb (stI (stI (stI (stI (stI (stI (stI (stI (stI (stI (stI σ 0 0 1) 1 0 (-1)) 1 1 (-1)) 1 2 (-1)) 1 3 (-1)) 1 4 (-1)) 1 5 (-1)) 1 6 (-1)) 1 7 (-1)) 1 8 (-1)) 1 9 (-1)) 26 := Zb.mono hz (by decide)
  refine n_putR (shs := sg_165) (shs' := sg_166) (ty := .array .int) (z := 25) X (iXc7 _) (k := 0) rfl rfl 51 (by decide) tyX7 tyX7_ok nmX7 rfl hin rfl (List.mem_cons_of_mem _ mw_873) (by decide +kernel) rfl rfl (by decide) ht0_25 hq25 rfl dX7_init_255 ?_
  refine n_aload_n X dX7_init_258 0 rfl ?_
  refine n_bipush X dX7_init_259 (by decide) ?_
  refine n_arr (shs := sg_166) (shs' := sg_167) (atype := .int) (tg := 1) (n := 25) (ty := .int) (a0 := (25, .inl (fun _ => 0))) X Aw_new (List.mem_cons_of_mem _ mw_104) rfl (fun _ => rfl) (by decide) (by decide) (by decide) (by decide) (cel_I hz) rfl (by decide) dX7_init_261 (fun ad26 q26 hk26 hq26 => ?_)
  have ht0_26 : ad26 0 = a0 := (hk26 0 (by decide)).trans ht0_25
  have ht1_26 : ad26 1 = q1 := (hk26 1 (by decide)).trans ht1_25
  have ht2_26 : ad26 2 = q2 := (hk26 2 (by decide)).trans ht2_25
  have ht3_26 : ad26 3 = q3 := (hk26 3 (by decide)).trans ht3_25
  have ht4_26 : ad26 4 = q4 := (hk26 4 (by decide)).trans ht4_25
  have ht5_26 : ad26 5 = q5 := (hk26 5 (by decide)).trans ht5_25
  have ht6_26 : ad26 6 = q6 := (hk26 6 (by decide)).trans ht6_25
  have ht7_26 : ad26 7 = q7 := (hk26 7 (by decide)).trans ht7_25
  have ht8_26 : ad26 8 = q8 := (hk26 8 (by decide)).trans ht8_25
  have ht9_26 : ad26 9 = q9 := (hk26 9 (by decide)).trans ht9_25
  have ht10_26 : ad26 10 = q10 := (hk26 10 (by decide)).trans ht10_25
  have ht11_26 : ad26 11 = q11 := (hk26 11 (by decide)).trans ht11_25
  have ht12_26 : ad26 12 = q12 := (hk26 12 (by decide)).trans ht12_25
  have ht13_26 : ad26 13 = q13 := (hk26 13 (by decide)).trans ht13_25
  have ht14_26 : ad26 14 = q14 := (hk26 14 (by decide)).trans ht14_25
  have ht15_26 : ad26 15 = q15 := (hk26 15 (by decide)).trans ht15_25
  have ht16_26 : ad26 16 = q16 := (hk26 16 (by decide)).trans ht16_25
  have ht17_26 : ad26 17 = q17 := (hk26 17 (by decide)).trans ht17_25
  have ht18_26 : ad26 18 = q18 := (hk26 18 (by decide)).trans ht18_25
  have ht19_26 : ad26 19 = q19 := (hk26 19 (by decide)).trans ht19_25
  have ht20_26 : ad26 20 = q20 := (hk26 20 (by decide)).trans ht20_25
  have ht21_26 : ad26 21 = q21 := (hk26 21 (by decide)).trans ht21_25
  have ht22_26 : ad26 22 = q22 := (hk26 22 (by decide)).trans ht22_25
  have ht23_26 : ad26 23 = q23 := (hk26 23 (by decide)).trans ht23_25
  have ht24_26 : ad26 24 = q24 := (hk26 24 (by decide)).trans ht24_25
  have ht25_26 : ad26 25 = q25 := (hk26 25 (by decide)).trans hq25
  have hc26 : ∀ k, k < sg_116.length → ad26 k = ad k := fun k hk => (hk26 k (Nat.lt_of_lt_of_le hk (by decide))).trans (hc25 k hk)
  replace hz : Zb (stI (stI (stI (stI (stI (stI (stI (stI (stI (stI (stI σ 0 0 1) 1 0 (-1)) 1 1 (-1)) 1 2 (-1)) 1 3 (-1)) 1 4 (-1)) 1 5 (-1)) 1 6 (-1)) 1 7 (-1)) 1 8 (-1)) 1 9 (-1)) 27 := Zb.mono hz (by decide)
  refine n_putR (shs := sg_167) (shs' := sg_168) (ty := .array .int) (z := 26) X (iXc7 _) (k := 0) rfl rfl 53 (by decide) tyX7 tyX7_ok nmX7 rfl hin rfl (List.mem_cons_of_mem _ mw_875) (by decide +kernel) rfl rfl (by decide) ht0_26 hq26 rfl dX7_init_263 ?_
  refine n_aload_n X dX7_init_266 0 rfl ?_
  refine n_bipush X dX7_init_267 (by decide) ?_
  refine n_arr (shs := sg_168) (shs' := sg_169) (atype := .int) (tg := 1) (n := 25) (ty := .int) (a0 := (25, .inl (fun _ => 0))) X Aw_new (List.mem_cons_of_mem _ mw_104) rfl (fun _ => rfl) (by decide) (by decide) (by decide) (by decide) (cel_I hz) rfl (by decide) dX7_init_269 (fun ad27 q27 hk27 hq27 => ?_)
  have ht0_27 : ad27 0 = a0 := (hk27 0 (by decide)).trans ht0_26
  have ht1_27 : ad27 1 = q1 := (hk27 1 (by decide)).trans ht1_26
  have ht2_27 : ad27 2 = q2 := (hk27 2 (by decide)).trans ht2_26
  have ht3_27 : ad27 3 = q3 := (hk27 3 (by decide)).trans ht3_26
  have ht4_27 : ad27 4 = q4 := (hk27 4 (by decide)).trans ht4_26
  have ht5_27 : ad27 5 = q5 := (hk27 5 (by decide)).trans ht5_26
  have ht6_27 : ad27 6 = q6 := (hk27 6 (by decide)).trans ht6_26
  have ht7_27 : ad27 7 = q7 := (hk27 7 (by decide)).trans ht7_26
  have ht8_27 : ad27 8 = q8 := (hk27 8 (by decide)).trans ht8_26
  have ht9_27 : ad27 9 = q9 := (hk27 9 (by decide)).trans ht9_26
  have ht10_27 : ad27 10 = q10 := (hk27 10 (by decide)).trans ht10_26
  have ht11_27 : ad27 11 = q11 := (hk27 11 (by decide)).trans ht11_26
  have ht12_27 : ad27 12 = q12 := (hk27 12 (by decide)).trans ht12_26
  have ht13_27 : ad27 13 = q13 := (hk27 13 (by decide)).trans ht13_26
  have ht14_27 : ad27 14 = q14 := (hk27 14 (by decide)).trans ht14_26
  have ht15_27 : ad27 15 = q15 := (hk27 15 (by decide)).trans ht15_26
  have ht16_27 : ad27 16 = q16 := (hk27 16 (by decide)).trans ht16_26
  have ht17_27 : ad27 17 = q17 := (hk27 17 (by decide)).trans ht17_26
  have ht18_27 : ad27 18 = q18 := (hk27 18 (by decide)).trans ht18_26
  have ht19_27 : ad27 19 = q19 := (hk27 19 (by decide)).trans ht19_26
  have ht20_27 : ad27 20 = q20 := (hk27 20 (by decide)).trans ht20_26
  have ht21_27 : ad27 21 = q21 := (hk27 21 (by decide)).trans ht21_26
  have ht22_27 : ad27 22 = q22 := (hk27 22 (by decide)).trans ht22_26
  have ht23_27 : ad27 23 = q23 := (hk27 23 (by decide)).trans ht23_26
  have ht24_27 : ad27 24 = q24 := (hk27 24 (by decide)).trans ht24_26
  have ht25_27 : ad27 25 = q25 := (hk27 25 (by decide)).trans ht25_26
  have ht26_27 : ad27 26 = q26 := (hk27 26 (by decide)).trans hq26
  have hc27 : ∀ k, k < sg_116.length → ad27 k = ad k := fun k hk => (hk27 k (Nat.lt_of_lt_of_le hk (by decide))).trans (hc26 k hk)
  replace hz : Zb (stI (stI (stI (stI (stI (stI (stI (stI (stI (stI (stI σ 0 0 1) 1 0 (-1)) 1 1 (-1)) 1 2 (-1)) 1 3 (-1)) 1 4 (-1)) 1 5 (-1)) 1 6 (-1)) 1 7 (-1)) 1 8 (-1)) 1 9 (-1)) 28 := Zb.mono hz (by decide)
  refine n_putR (shs := sg_169) (shs' := sg_170) (ty := .array .int) (z := 27) X (iXc7 _) (k := 0) rfl rfl 54 (by decide) tyX7 tyX7_ok nmX7 rfl hin rfl (List.mem_cons_of_mem _ mw_876) (by decide +kernel) rfl rfl (by decide) ht0_27 hq27 rfl dX7_init_271 ?_
  refine n_aload_n X dX7_init_274 0 rfl ?_
  refine n_sipush X dX7_init_275 (by decide) ?_
  refine n_arr (shs := sg_170) (shs' := sg_171) (atype := .int) (tg := 1) (n := 150) (ty := .int) (a0 := (150, .inl (fun _ => 0))) X Aw_new (List.mem_cons_of_mem _ mw_104) rfl (fun _ => rfl) (by decide) (by decide) (by decide) (by decide) (cel_I hz) rfl (by decide) dX7_init_278 (fun ad28 q28 hk28 hq28 => ?_)
  have ht0_28 : ad28 0 = a0 := (hk28 0 (by decide)).trans ht0_27
  have ht1_28 : ad28 1 = q1 := (hk28 1 (by decide)).trans ht1_27
  have ht2_28 : ad28 2 = q2 := (hk28 2 (by decide)).trans ht2_27
  have ht3_28 : ad28 3 = q3 := (hk28 3 (by decide)).trans ht3_27
  have ht4_28 : ad28 4 = q4 := (hk28 4 (by decide)).trans ht4_27
  have ht5_28 : ad28 5 = q5 := (hk28 5 (by decide)).trans ht5_27
  have ht6_28 : ad28 6 = q6 := (hk28 6 (by decide)).trans ht6_27
  have ht7_28 : ad28 7 = q7 := (hk28 7 (by decide)).trans ht7_27
  have ht8_28 : ad28 8 = q8 := (hk28 8 (by decide)).trans ht8_27
  have ht9_28 : ad28 9 = q9 := (hk28 9 (by decide)).trans ht9_27
  have ht10_28 : ad28 10 = q10 := (hk28 10 (by decide)).trans ht10_27
  have ht11_28 : ad28 11 = q11 := (hk28 11 (by decide)).trans ht11_27
  have ht12_28 : ad28 12 = q12 := (hk28 12 (by decide)).trans ht12_27
  have ht13_28 : ad28 13 = q13 := (hk28 13 (by decide)).trans ht13_27
  have ht14_28 : ad28 14 = q14 := (hk28 14 (by decide)).trans ht14_27
  have ht15_28 : ad28 15 = q15 := (hk28 15 (by decide)).trans ht15_27
  have ht16_28 : ad28 16 = q16 := (hk28 16 (by decide)).trans ht16_27
  have ht17_28 : ad28 17 = q17 := (hk28 17 (by decide)).trans ht17_27
  have ht18_28 : ad28 18 = q18 := (hk28 18 (by decide)).trans ht18_27
  have ht19_28 : ad28 19 = q19 := (hk28 19 (by decide)).trans ht19_27
  have ht20_28 : ad28 20 = q20 := (hk28 20 (by decide)).trans ht20_27
  have ht21_28 : ad28 21 = q21 := (hk28 21 (by decide)).trans ht21_27
  have ht22_28 : ad28 22 = q22 := (hk28 22 (by decide)).trans ht22_27
  have ht23_28 : ad28 23 = q23 := (hk28 23 (by decide)).trans ht23_27
  have ht24_28 : ad28 24 = q24 := (hk28 24 (by decide)).trans ht24_27
  have ht25_28 : ad28 25 = q25 := (hk28 25 (by decide)).trans ht25_27
  have ht26_28 : ad28 26 = q26 := (hk28 26 (by decide)).trans ht26_27
  have ht27_28 : ad28 27 = q27 := (hk28 27 (by decide)).trans hq27
  have hc28 : ∀ k, k < sg_116.length → ad28 k = ad k := fun k hk => (hk28 k (Nat.lt_of_lt_of_le hk (by decide))).trans (hc27 k hk)
  replace hz : Zb (stI (stI (stI (stI (stI (stI (stI (stI (stI (stI (stI σ 0 0 1) 1 0 (-1)) 1 1 (-1)) 1 2 (-1)) 1 3 (-1)) 1 4 (-1)) 1 5 (-1)) 1 6 (-1)) 1 7 (-1)) 1 8 (-1)) 1 9 (-1)) 29 := Zb.mono hz (by decide)
  refine n_putR (shs := sg_171) (shs' := sg_172) (ty := .array .int) (z := 28) X (iXc7 _) (k := 0) rfl rfl 55 (by decide) tyX7 tyX7_ok nmX7 rfl hin rfl (List.mem_cons_of_mem _ mw_877) (by decide +kernel) rfl rfl (by decide) ht0_28 hq28 rfl dX7_init_280 ?_
  refine n_aload_n X dX7_init_283 0 rfl ?_
  refine n_sipush X dX7_init_284 (by decide) ?_
  refine n_arr (shs := sg_172) (shs' := sg_173) (atype := .int) (tg := 1) (n := 300) (ty := .int) (a0 := (300, .inl (fun _ => 0))) X Aw_new (List.mem_cons_of_mem _ mw_104) rfl (fun _ => rfl) (by decide) (by decide) (by decide) (by decide) (cel_I hz) rfl (by decide) dX7_init_287 (fun ad29 q29 hk29 hq29 => ?_)
  have ht0_29 : ad29 0 = a0 := (hk29 0 (by decide)).trans ht0_28
  have ht1_29 : ad29 1 = q1 := (hk29 1 (by decide)).trans ht1_28
  have ht2_29 : ad29 2 = q2 := (hk29 2 (by decide)).trans ht2_28
  have ht3_29 : ad29 3 = q3 := (hk29 3 (by decide)).trans ht3_28
  have ht4_29 : ad29 4 = q4 := (hk29 4 (by decide)).trans ht4_28
  have ht5_29 : ad29 5 = q5 := (hk29 5 (by decide)).trans ht5_28
  have ht6_29 : ad29 6 = q6 := (hk29 6 (by decide)).trans ht6_28
  have ht7_29 : ad29 7 = q7 := (hk29 7 (by decide)).trans ht7_28
  have ht8_29 : ad29 8 = q8 := (hk29 8 (by decide)).trans ht8_28
  have ht9_29 : ad29 9 = q9 := (hk29 9 (by decide)).trans ht9_28
  have ht10_29 : ad29 10 = q10 := (hk29 10 (by decide)).trans ht10_28
  have ht11_29 : ad29 11 = q11 := (hk29 11 (by decide)).trans ht11_28
  have ht12_29 : ad29 12 = q12 := (hk29 12 (by decide)).trans ht12_28
  have ht13_29 : ad29 13 = q13 := (hk29 13 (by decide)).trans ht13_28
  have ht14_29 : ad29 14 = q14 := (hk29 14 (by decide)).trans ht14_28
  have ht15_29 : ad29 15 = q15 := (hk29 15 (by decide)).trans ht15_28
  have ht16_29 : ad29 16 = q16 := (hk29 16 (by decide)).trans ht16_28
  have ht17_29 : ad29 17 = q17 := (hk29 17 (by decide)).trans ht17_28
  have ht18_29 : ad29 18 = q18 := (hk29 18 (by decide)).trans ht18_28
  have ht19_29 : ad29 19 = q19 := (hk29 19 (by decide)).trans ht19_28
  have ht20_29 : ad29 20 = q20 := (hk29 20 (by decide)).trans ht20_28
  have ht21_29 : ad29 21 = q21 := (hk29 21 (by decide)).trans ht21_28
  have ht22_29 : ad29 22 = q22 := (hk29 22 (by decide)).trans ht22_28
  have ht23_29 : ad29 23 = q23 := (hk29 23 (by decide)).trans ht23_28
  have ht24_29 : ad29 24 = q24 := (hk29 24 (by decide)).trans ht24_28
  have ht25_29 : ad29 25 = q25 := (hk29 25 (by decide)).trans ht25_28
  have ht26_29 : ad29 26 = q26 := (hk29 26 (by decide)).trans ht26_28
  have ht27_29 : ad29 27 = q27 := (hk29 27 (by decide)).trans ht27_28
  have ht28_29 : ad29 28 = q28 := (hk29 28 (by decide)).trans hq28
  have hc29 : ∀ k, k < sg_116.length → ad29 k = ad k := fun k hk => (hk29 k (Nat.lt_of_lt_of_le hk (by decide))).trans (hc28 k hk)
  replace hz : Zb (stI (stI (stI (stI (stI (stI (stI (stI (stI (stI (stI σ 0 0 1) 1 0 (-1)) 1 1 (-1)) 1 2 (-1)) 1 3 (-1)) 1 4 (-1)) 1 5 (-1)) 1 6 (-1)) 1 7 (-1)) 1 8 (-1)) 1 9 (-1)) 30 := Zb.mono hz (by decide)
  refine n_putR (shs := sg_173) (shs' := sg_174) (ty := .array .int) (z := 29) X (iXc7 _) (k := 0) rfl rfl 56 (by decide) tyX7 tyX7_ok nmX7 rfl hin rfl (List.mem_cons_of_mem _ mw_878) (by decide +kernel) rfl rfl (by decide) ht0_29 hq29 rfl dX7_init_289 ?_
  refine n_aload_n X dX7_init_292 0 rfl ?_
  refine n_sipush X dX7_init_293 (by decide) ?_
  refine n_arr (shs := sg_174) (shs' := sg_175) (atype := .long) (tg := 2) (n := 144) (ty := .long) (a0 := (144, .inr (.inl (fun _ => 0)))) X Aw_new (List.mem_cons_of_mem _ mw_156) rfl (fun _ => rfl) (by decide) (by decide) (by decide) (by decide) (cel_J hz) rfl (by decide) dX7_init_296 (fun ad30 q30 hk30 hq30 => ?_)
  have ht0_30 : ad30 0 = a0 := (hk30 0 (by decide)).trans ht0_29
  have ht1_30 : ad30 1 = q1 := (hk30 1 (by decide)).trans ht1_29
  have ht2_30 : ad30 2 = q2 := (hk30 2 (by decide)).trans ht2_29
  have ht3_30 : ad30 3 = q3 := (hk30 3 (by decide)).trans ht3_29
  have ht4_30 : ad30 4 = q4 := (hk30 4 (by decide)).trans ht4_29
  have ht5_30 : ad30 5 = q5 := (hk30 5 (by decide)).trans ht5_29
  have ht6_30 : ad30 6 = q6 := (hk30 6 (by decide)).trans ht6_29
  have ht7_30 : ad30 7 = q7 := (hk30 7 (by decide)).trans ht7_29
  have ht8_30 : ad30 8 = q8 := (hk30 8 (by decide)).trans ht8_29
  have ht9_30 : ad30 9 = q9 := (hk30 9 (by decide)).trans ht9_29
  have ht10_30 : ad30 10 = q10 := (hk30 10 (by decide)).trans ht10_29
  have ht11_30 : ad30 11 = q11 := (hk30 11 (by decide)).trans ht11_29
  have ht12_30 : ad30 12 = q12 := (hk30 12 (by decide)).trans ht12_29
  have ht13_30 : ad30 13 = q13 := (hk30 13 (by decide)).trans ht13_29
  have ht14_30 : ad30 14 = q14 := (hk30 14 (by decide)).trans ht14_29
  have ht15_30 : ad30 15 = q15 := (hk30 15 (by decide)).trans ht15_29
  have ht16_30 : ad30 16 = q16 := (hk30 16 (by decide)).trans ht16_29
  have ht17_30 : ad30 17 = q17 := (hk30 17 (by decide)).trans ht17_29
  have ht18_30 : ad30 18 = q18 := (hk30 18 (by decide)).trans ht18_29
  have ht19_30 : ad30 19 = q19 := (hk30 19 (by decide)).trans ht19_29
  have ht20_30 : ad30 20 = q20 := (hk30 20 (by decide)).trans ht20_29
  have ht21_30 : ad30 21 = q21 := (hk30 21 (by decide)).trans ht21_29
  have ht22_30 : ad30 22 = q22 := (hk30 22 (by decide)).trans ht22_29
  have ht23_30 : ad30 23 = q23 := (hk30 23 (by decide)).trans ht23_29
  have ht24_30 : ad30 24 = q24 := (hk30 24 (by decide)).trans ht24_29
  have ht25_30 : ad30 25 = q25 := (hk30 25 (by decide)).trans ht25_29
  have ht26_30 : ad30 26 = q26 := (hk30 26 (by decide)).trans ht26_29
  have ht27_30 : ad30 27 = q27 := (hk30 27 (by decide)).trans ht27_29
  have ht28_30 : ad30 28 = q28 := (hk30 28 (by decide)).trans ht28_29
  have ht29_30 : ad30 29 = q29 := (hk30 29 (by decide)).trans hq29
  have hc30 : ∀ k, k < sg_116.length → ad30 k = ad k := fun k hk => (hk30 k (Nat.lt_of_lt_of_le hk (by decide))).trans (hc29 k hk)
  replace hz : Zb (stI (stI (stI (stI (stI (stI (stI (stI (stI (stI (stI σ 0 0 1) 1 0 (-1)) 1 1 (-1)) 1 2 (-1)) 1 3 (-1)) 1 4 (-1)) 1 5 (-1)) 1 6 (-1)) 1 7 (-1)) 1 8 (-1)) 1 9 (-1)) 31 := Zb.mono hz (by decide)
  refine n_putR (shs := sg_175) (shs' := sg_176) (ty := .array .long) (z := 30) X (iXc7 _) (k := 0) rfl rfl 57 (by decide) tyX7 tyX7_ok nmX7 rfl hin rfl (List.mem_cons_of_mem _ mw_879) (by decide +kernel) rfl rfl (by decide) ht0_30 hq30 rfl dX7_init_298 ?_
  refine n_aload_n X dX7_init_301 0 rfl ?_
  refine n_sipush X dX7_init_302 (by decide) ?_
  refine n_arr (shs := sg_176) (shs' := sg_177) (atype := .long) (tg := 2) (n := 144) (ty := .long) (a0 := (144, .inr (.inl (fun _ => 0)))) X Aw_new (List.mem_cons_of_mem _ mw_156) rfl (fun _ => rfl) (by decide) (by decide) (by decide) (by decide) (cel_J hz) rfl (by decide) dX7_init_305 (fun ad31 q31 hk31 hq31 => ?_)
  have ht0_31 : ad31 0 = a0 := (hk31 0 (by decide)).trans ht0_30
  have ht1_31 : ad31 1 = q1 := (hk31 1 (by decide)).trans ht1_30
  have ht2_31 : ad31 2 = q2 := (hk31 2 (by decide)).trans ht2_30
  have ht3_31 : ad31 3 = q3 := (hk31 3 (by decide)).trans ht3_30
  have ht4_31 : ad31 4 = q4 := (hk31 4 (by decide)).trans ht4_30
  have ht5_31 : ad31 5 = q5 := (hk31 5 (by decide)).trans ht5_30
  have ht6_31 : ad31 6 = q6 := (hk31 6 (by decide)).trans ht6_30
  have ht7_31 : ad31 7 = q7 := (hk31 7 (by decide)).trans ht7_30
  have ht8_31 : ad31 8 = q8 := (hk31 8 (by decide)).trans ht8_30
  have ht9_31 : ad31 9 = q9 := (hk31 9 (by decide)).trans ht9_30
  have ht10_31 : ad31 10 = q10 := (hk31 10 (by decide)).trans ht10_30
  have ht11_31 : ad31 11 = q11 := (hk31 11 (by decide)).trans ht11_30
  have ht12_31 : ad31 12 = q12 := (hk31 12 (by decide)).trans ht12_30
  have ht13_31 : ad31 13 = q13 := (hk31 13 (by decide)).trans ht13_30
  have ht14_31 : ad31 14 = q14 := (hk31 14 (by decide)).trans ht14_30
  have ht15_31 : ad31 15 = q15 := (hk31 15 (by decide)).trans ht15_30
  have ht16_31 : ad31 16 = q16 := (hk31 16 (by decide)).trans ht16_30
  have ht17_31 : ad31 17 = q17 := (hk31 17 (by decide)).trans ht17_30
  have ht18_31 : ad31 18 = q18 := (hk31 18 (by decide)).trans ht18_30
  have ht19_31 : ad31 19 = q19 := (hk31 19 (by decide)).trans ht19_30
  have ht20_31 : ad31 20 = q20 := (hk31 20 (by decide)).trans ht20_30
  have ht21_31 : ad31 21 = q21 := (hk31 21 (by decide)).trans ht21_30
  have ht22_31 : ad31 22 = q22 := (hk31 22 (by decide)).trans ht22_30
  have ht23_31 : ad31 23 = q23 := (hk31 23 (by decide)).trans ht23_30
  have ht24_31 : ad31 24 = q24 := (hk31 24 (by decide)).trans ht24_30
  have ht25_31 : ad31 25 = q25 := (hk31 25 (by decide)).trans ht25_30
  have ht26_31 : ad31 26 = q26 := (hk31 26 (by decide)).trans ht26_30
  have ht27_31 : ad31 27 = q27 := (hk31 27 (by decide)).trans ht27_30
  have ht28_31 : ad31 28 = q28 := (hk31 28 (by decide)).trans ht28_30
  have ht29_31 : ad31 29 = q29 := (hk31 29 (by decide)).trans ht29_30
  have ht30_31 : ad31 30 = q30 := (hk31 30 (by decide)).trans hq30
  have hc31 : ∀ k, k < sg_116.length → ad31 k = ad k := fun k hk => (hk31 k (Nat.lt_of_lt_of_le hk (by decide))).trans (hc30 k hk)
  replace hz : Zb (stI (stI (stI (stI (stI (stI (stI (stI (stI (stI (stI σ 0 0 1) 1 0 (-1)) 1 1 (-1)) 1 2 (-1)) 1 3 (-1)) 1 4 (-1)) 1 5 (-1)) 1 6 (-1)) 1 7 (-1)) 1 8 (-1)) 1 9 (-1)) 32 := Zb.mono hz (by decide)
  refine n_putR (shs := sg_177) (shs' := sg_178) (ty := .array .long) (z := 31) X (iXc7 _) (k := 0) rfl rfl 58 (by decide) tyX7 tyX7_ok nmX7 rfl hin rfl (List.mem_cons_of_mem _ mw_880) (by decide +kernel) rfl rfl (by decide) ht0_31 hq31 rfl dX7_init_307 ?_
  refine n_aload_n X dX7_init_310 0 rfl ?_
  refine n_iconst X dX7_init_311 ?_
  refine n_putI (shs := sg_178) (ty := .int) X (iXc7 _) (k := 0) rfl rfl 24 (by decide) tyX7 tyX7_ok nmX7 rfl (List.mem_cons_of_mem _ mw_846) (by decide +kernel) (by decide) (by decide) rfl ht0_31 dX7_init_312 ?_
  replace hz : Zb (stI (stI (stI (stI (stI (stI (stI (stI (stI (stI (stI (stI σ 0 0 1) 1 0 (-1)) 1 1 (-1)) 1 2 (-1)) 1 3 (-1)) 1 4 (-1)) 1 5 (-1)) 1 6 (-1)) 1 7 (-1)) 1 8 (-1)) 1 9 (-1)) 0 24 0) 32 := Zb.stI hz (by decide)
  replace hR : Rg (stI (stI (stI (stI (stI (stI (stI (stI (stI (stI (stI (stI σ 0 0 1) 1 0 (-1)) 1 1 (-1)) 1 2 (-1)) 1 3 (-1)) 1 4 (-1)) 1 5 (-1)) 1 6 (-1)) 1 7 (-1)) 1 8 (-1)) 1 9 (-1)) 0 24 0) := Rg.stI hR (by decide)
  exact n_vret X hr hlk hc31 dX7_init_315
theorem sgM_eq : sg_178 = shM := rfl
