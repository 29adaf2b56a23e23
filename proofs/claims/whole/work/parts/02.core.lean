/-! MY OWN LAYER. A world is a list of shapes (what each cell is) and two functions of numbers (what is in it): the ints (and booleans) as whole numbers in range, the longs as they are. A method is a function over these that answers 'none' where the machine would leave the told road. -/
abbrev inR (x : Int) : Prop := -2147483648 ≤ x ∧ x ≤ 2147483647
abbrev oi (x : Int) : Int32 := Int32.ofInt x
theorem oi_toInt {x : Int} (h : inR x) : (oi x).toInt = x := Int32.toInt_ofInt_of_le (by omega) (by omega)
theorem oi_lt {x y : Int} (hx : inR x) (hy : inR y) : oi x < oi y ↔ x < y := by
  rw [Int32.lt_iff_toInt_lt, oi_toInt hx, oi_toInt hy]
theorem oi_le {x y : Int} (hx : inR x) (hy : inR y) : oi x ≤ oi y ↔ x ≤ y := by
  rw [Int32.le_iff_toInt_le, oi_toInt hx, oi_toInt hy]
theorem oi_eq {x y : Int} (hx : inR x) (hy : inR y) : oi x = oi y ↔ x = y := by
  rw [← Int32.toInt_inj, oi_toInt hx, oi_toInt hy]
theorem oi_of (x : Int32) : oi x.toInt = x := Int32.ofInt_toInt x
theorem oi_rng (x : Int32) : inR x.toInt := ⟨by have := x.le_toInt; omega, by have := x.toInt_lt; omega⟩
theorem oi_in {i : Int} {n : Nat} (h : 0 ≤ i ∧ i < (n : Int)) (hn : n < 2147483648) : vp_in (oi i) n ∧ (oi i).toNatClampNeg = i.toNat := by
  have hr : inR i := ⟨by omega, by omega⟩
  refine ⟨vp_in_iff.mpr (by rw [oi_toInt hr]; exact h), ?_⟩
  rw [← Int32.toNat_toInt, oi_toInt hr]
theorem oi_add (x y : Int) : oi x + oi y = oi (x + y) := (Int32.ofInt_add x y).symm
theorem oi_sub (x y : Int) : oi x - oi y = oi (x - y) := (Int32.ofInt_sub x y).symm
theorem oi_mul (x y : Int) : oi x * oi y = oi (x * y) := (Int32.ofInt_mul x y).symm
/-! what the machine makes of two ints where it isn't the whole numbers' own -/
def iAnd (x y : Int) : Int := (oi x &&& oi y).toInt
def iOr (x y : Int) : Int := (oi x ||| oi y).toInt
def iShl (x y : Int) : Int := (oi x <<< (oi y &&& 31)).toInt
def iShr (x y : Int) : Int := (oi x >>> (oi y &&& 31)).toInt
def iDiv (x y : Int) : Int := (oi x / oi y).toInt
def iRem (x y : Int) : Int := (oi x - oi x / oi y * oi y).toInt
def lShl (x : Int64) (y : Int) : Int64 := x <<< ((oi y).toInt64 &&& 63)
def lShr (x : Int64) (y : Int) : Int64 := x >>> ((oi y).toInt64 &&& 63)
def lUsr (x : Int64) (y : Int) : Int64 := (x.toUInt64 >>> ((oi y).toInt64.toUInt64 &&& Int64.toUInt64 63)).toInt64
def i2L (x : Int) : Int64 := (oi x).toInt64
/-! the contents -/
abbrev Mm : Type := (Nat → Nat → Int) × (Nat → Nat → Int64)
abbrev Sh : Type := Nat × Nat × List (Nat × Nat)
def Rg (σ : Mm) : Prop := ∀ k j : Nat, inR (σ.1 k j)
def stI (σ : Mm) (k j : Nat) (v : Int) : Mm := (fun a b => if a = k ∧ b = j then v else σ.1 a b, σ.2)
def stL (σ : Mm) (k j : Nat) (v : Int64) : Mm := (σ.1, fun a b => if a = k ∧ b = j then v else σ.2 a b)
theorem Rg.stI {σ : Mm} {k j : Nat} {v : Int} (h : Rg σ) (hv : inR v) : Rg (stI σ k j v) := by
  intro a b
  by_cases hc : a = k ∧ b = j
  · show inR (if a = k ∧ b = j then v else σ.1 a b)
    rw [if_pos hc]; exact hv
  · show inR (if a = k ∧ b = j then v else σ.1 a b)
    rw [if_neg hc]; exact h a b
theorem Rg.stL {σ : Mm} {k j : Nat} {v : Int64} (h : Rg σ) : Rg (stL σ k j v) := h
def ck {α : Type} (c : Prop) [Decidable c] (e : Option α) : Option α := if c then e else none
theorem ck_pos {α : Type} {c : Prop} [Decidable c] {e : Option α} (h : c) : ck c e = e := if_pos h
theorem ck_some {α : Type} {c : Prop} [Decidable c] {e : Option α} {r : α} (h : ck c e = some r) : c ∧ e = some r := by
  unfold ck at h
  by_cases hc : c
  · rw [if_pos hc] at h; exact ⟨hc, h⟩
  · rw [if_neg hc] at h; cases h
def vfd (ad : Nat → Nat) (σ : Mm) (k j : Nat) (d : Nat × Nat) : Value := match d.1 with
  | 0 => .int (oi (σ.1 k j))
  | 1 => .long (σ.2 k j)
  | 2 => .ref (ad d.2)
  | _ => .null
def fds (ad : Nat → Nat) (σ : Mm) (k : Nat) : Nat → List (Nat × Nat) → List Value
  | _, [] => []
  | j, d :: ds => vfd ad σ k j d :: fds ad σ k (j + 1) ds
theorem fds_get (ad : Nat → Nat) (σ : Mm) (k : Nat) : ∀ (ds : List (Nat × Nat)) (j i : Nat), (fds ad σ k j ds)[i]? = (ds[i]?).map (vfd ad σ k (j + i))
  | [], j, i => by simp [fds]
  | d :: ds, j, 0 => by simp [fds]
  | d :: ds, j, i + 1 => by
    show (fds ad σ k (j + 1) ds)[i]? = _
    rw [fds_get ad σ k ds (j + 1) i]
    have h : j + 1 + i = j + (i + 1) := by omega
    rw [h]
    rfl
theorem fds_len (ad : Nat → Nat) (σ : Mm) (k : Nat) : ∀ (ds : List (Nat × Nat)) (j : Nat), (fds ad σ k j ds).length = ds.length
  | [], _ => rfl
  | _ :: ds, j => by show (fds ad σ k (j + 1) ds).length + 1 = _; rw [fds_len ad σ k ds (j + 1)]; rfl
def cel (ca : Nat → ClassId) (ad : Nat → Nat) (σ : Mm) (k : Nat) (sh : Sh) : va_E := match sh.1 with
  | 0 => .inr (sh.2.1, fds ad σ k 0 sh.2.2)
  | 1 => .inl (ca 0, sh.2.1, .inl (fun j => oi (σ.1 k j)))
  | 2 => .inl (ca 1, sh.2.1, .inr (.inl (fun j => σ.2 k j)))
  | _ => .inl (ca 2, sh.2.1, .inl (fun j => oi (σ.1 k j)))
def wl (ca : Nat → ClassId) (ad : Nat → Nat) (shs : List Sh) (σ : Mm) : va_W := shs.zipIdx.map (fun q => (ad q.2, cel ca ad σ q.2 q.1))
theorem wl_get {ca : Nat → ClassId} {ad : Nat → Nat} {shs : List Sh} {σ : Mm} {k : Nat} {sh : Sh} (h : shs[k]? = some sh) : (wl ca ad shs σ)[k]? = some (ad k, cel ca ad σ k sh) := by
  simp [wl, List.getElem?_zipIdx, h]
theorem wl_len {ca : Nat → ClassId} {ad : Nat → Nat} {shs : List Sh} {σ : Mm} : (wl ca ad shs σ).length = shs.length := by simp [wl]
theorem vfd_congr {ad : Nat → Nat} {σ σ' : Mm} {k j : Nat} {d : Nat × Nat} (h1 : σ.1 k j = σ'.1 k j) (h2 : σ.2 k j = σ'.2 k j) : vfd ad σ k j d = vfd ad σ' k j d := by
  unfold vfd
  rw [h1, h2]
theorem fds_congr {ad : Nat → Nat} {σ σ' : Mm} {k : Nat} (h1 : σ.1 k = σ'.1 k) (h2 : σ.2 k = σ'.2 k) : ∀ (ds : List (Nat × Nat)) (j : Nat), fds ad σ k j ds = fds ad σ' k j ds
  | [], _ => rfl
  | d :: ds, j => by
    show vfd ad σ k j d :: fds ad σ k (j + 1) ds = vfd ad σ' k j d :: fds ad σ' k (j + 1) ds
    rw [fds_congr h1 h2 ds (j + 1), vfd_congr (congrFun h1 j) (congrFun h2 j)]
theorem cel_congr {ca : Nat → ClassId} {ad : Nat → Nat} {σ σ' : Mm} {k : Nat} (h1 : σ.1 k = σ'.1 k) (h2 : σ.2 k = σ'.2 k) (sh : Sh) : cel ca ad σ k sh = cel ca ad σ' k sh := by
  unfold cel
  rw [fds_congr h1 h2, h1, h2]
theorem wl_set {ca : Nat → ClassId} {ad : Nat → Nat} {shs : List Sh} {σ σ' : Mm} {k : Nat} {sh : Sh} (h : shs[k]? = some sh) (h1 : ∀ q, q ≠ k → σ.1 q = σ'.1 q) (h2 : ∀ q, q ≠ k → σ.2 q = σ'.2 q) : (wl ca ad shs σ).set k (ad k, cel ca ad σ' k sh) = wl ca ad shs σ' := by
  apply List.ext_getElem?
  intro i
  have hlt : k < shs.length := (List.getElem?_eq_some_iff.mp h).1
  by_cases hi : k = i
  · subst hi
    rw [List.getElem?_set_self (by rw [wl_len]; exact hlt), wl_get h]
  · rw [List.getElem?_set_ne hi]
    cases hs : shs[i]? with
    | none =>
      have hl : shs.length ≤ i := List.getElem?_eq_none_iff.mp hs
      rw [List.getElem?_eq_none (by rw [wl_len]; exact hl), List.getElem?_eq_none (by rw [wl_len]; exact hl)]
    | some s2 => rw [wl_get hs, wl_get hs, cel_congr (h1 i (Ne.symm hi)) (h2 i (Ne.symm hi))]
theorem stI_ne {σ : Mm} {k j : Nat} {v : Int} : ∀ q, q ≠ k → σ.1 q = (stI σ k j v).1 q := fun q hq => by
  funext b
  show _ = if q = k ∧ b = j then v else σ.1 q b
  rw [if_neg (fun h => hq h.1)]
theorem stL_ne {σ : Mm} {k j : Nat} {v : Int64} : ∀ q, q ≠ k → σ.2 q = (stL σ k j v).2 q := fun q hq => by
  funext b
  show _ = if q = k ∧ b = j then v else σ.2 q b
  rw [if_neg (fun h => hq h.1)]
theorem fds_set {ad : Nat → Nat} {σ σ' : Mm} {k i : Nat} (h : ∀ q, q ≠ i → σ.1 k q = σ'.1 k q ∧ σ.2 k q = σ'.2 k q) {d : Nat × Nat} {ds : List (Nat × Nat)} (hd : ds[i]? = some d) : (fds ad σ k 0 ds).set i (vfd ad σ' k i d) = fds ad σ' k 0 ds := by
  apply List.ext_getElem?
  intro q
  have hlt : i < ds.length := (List.getElem?_eq_some_iff.mp hd).1
  by_cases hq : i = q
  · subst hq
    rw [List.getElem?_set_self (by rw [fds_len]; exact hlt), fds_get, hd, Nat.zero_add]
    rfl
  · rw [List.getElem?_set_ne hq, fds_get, fds_get, Nat.zero_add]
    cases ds[q]? with
    | none => rfl
    | some d2 => exact congrArg some (vfd_congr (h q (Ne.symm hq)).1 (h q (Ne.symm hq)).2)
theorem wl_stI_fld {ca : Nat → ClassId} {ad : Nat → Nat} {shs : List Sh} {σ : Mm} {k i ci : Nat} {fl : List (Nat × Nat)} {v : Int} {z : Nat} (h : shs[k]? = some (0, ci, fl)) (hd : fl[i]? = some (0, z)) : (wl ca ad shs σ).set k (ad k, .inr (ci, (fds ad σ k 0 fl).set i (.int (oi v)))) = wl ca ad shs (stI σ k i v) := by
  rw [← wl_set (σ := σ) (σ' := stI σ k i v) h stI_ne (fun _ _ => rfl)]
  have hv : vfd ad (stI σ k i v) k i (0, z) = .int (oi v) := by
    show Value.int (oi (if k = k ∧ i = i then v else σ.1 k i)) = _
    rw [if_pos ⟨rfl, rfl⟩]
  have hf : (fds ad σ k 0 fl).set i (.int (oi v)) = fds ad (stI σ k i v) k 0 fl := by
    rw [← hv]
    refine fds_set (σ := σ) (σ' := stI σ k i v) (fun q hq => ⟨?_, rfl⟩) hd
    show _ = if k = k ∧ q = i then v else σ.1 k q
    rw [if_neg (fun h => hq h.2)]
  rw [hf]
  rfl
theorem wl_stL_fld {ca : Nat → ClassId} {ad : Nat → Nat} {shs : List Sh} {σ : Mm} {k i ci : Nat} {fl : List (Nat × Nat)} {v : Int64} {z : Nat} (h : shs[k]? = some (0, ci, fl)) (hd : fl[i]? = some (1, z)) : (wl ca ad shs σ).set k (ad k, .inr (ci, (fds ad σ k 0 fl).set i (.long v))) = wl ca ad shs (stL σ k i v) := by
  rw [← wl_set (σ := σ) (σ' := stL σ k i v) h (fun _ _ => rfl) stL_ne]
  have hv : vfd ad (stL σ k i v) k i (1, z) = .long v := by
    show Value.long (if k = k ∧ i = i then v else σ.2 k i) = _
    rw [if_pos ⟨rfl, rfl⟩]
  have hf : (fds ad σ k 0 fl).set i (.long v) = fds ad (stL σ k i v) k 0 fl := by
    rw [← hv]
    refine fds_set (σ := σ) (σ' := stL σ k i v) (fun q hq => ⟨rfl, ?_⟩) hd
    show _ = if k = k ∧ q = i then v else σ.2 k q
    rw [if_neg (fun h => hq h.2)]
  rw [hf]
  rfl
theorem wl_stI_arr {ca : Nat → ClassId} {ad : Nat → Nat} {shs : List Sh} {σ : Mm} {k i n : Nat} {fl : List (Nat × Nat)} {v : Int} (h : shs[k]? = some (1, n, fl)) : (wl ca ad shs σ).set k (ad k, .inl (ca 0, n, .inl (upd (fun j => oi (σ.1 k j)) i (oi v)))) = wl ca ad shs (stI σ k i v) := by
  rw [← wl_set (σ := σ) (σ' := stI σ k i v) h stI_ne (fun _ _ => rfl)]
  have hf : upd (fun j => oi (σ.1 k j)) i (oi v) = fun j => oi ((stI σ k i v).1 k j) := by
    funext j
    show (if j = i then oi v else oi (σ.1 k j)) = oi (if k = k ∧ j = i then v else σ.1 k j)
    by_cases hj : j = i
    · rw [if_pos hj, if_pos ⟨rfl, hj⟩]
    · rw [if_neg hj, if_neg (fun h => hj h.2)]
  rw [hf]
  rfl
theorem wl_stZ_arr {ca : Nat → ClassId} {ad : Nat → Nat} {shs : List Sh} {σ : Mm} {k i n : Nat} {fl : List (Nat × Nat)} {v : Int} (h : shs[k]? = some (3, n, fl)) : (wl ca ad shs σ).set k (ad k, .inl (ca 2, n, .inl (upd (fun j => oi (σ.1 k j)) i (oi v)))) = wl ca ad shs (stI σ k i v) := by
  rw [← wl_set (σ := σ) (σ' := stI σ k i v) h stI_ne (fun _ _ => rfl)]
  have hf : upd (fun j => oi (σ.1 k j)) i (oi v) = fun j => oi ((stI σ k i v).1 k j) := by
    funext j
    show (if j = i then oi v else oi (σ.1 k j)) = oi (if k = k ∧ j = i then v else σ.1 k j)
    by_cases hj : j = i
    · rw [if_pos hj, if_pos ⟨rfl, hj⟩]
    · rw [if_neg hj, if_neg (fun h => hj h.2)]
  rw [hf]
  rfl
theorem wl_stL_arr {ca : Nat → ClassId} {ad : Nat → Nat} {shs : List Sh} {σ : Mm} {k i n : Nat} {fl : List (Nat × Nat)} {v : Int64} (h : shs[k]? = some (2, n, fl)) : (wl ca ad shs σ).set k (ad k, .inl (ca 1, n, .inr (.inl (vp_updL (fun j => σ.2 k j) i v)))) = wl ca ad shs (stL σ k i v) := by
  rw [← wl_set (σ := σ) (σ' := stL σ k i v) h (fun _ _ => rfl) stL_ne]
  have hf : vp_updL (fun j => σ.2 k j) i v = fun j => (stL σ k i v).2 k j := by
    funext j
    show (if j = i then v else σ.2 k j) = (if k = k ∧ j = i then v else σ.2 k j)
    by_cases hj : j = i
    · rw [if_pos hj, if_pos ⟨rfl, hj⟩]
    · rw [if_neg hj, if_neg (fun h => hj h.2)]
  rw [hf]
  rfl
