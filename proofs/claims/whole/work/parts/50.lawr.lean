/-! THE LAW'S WALK: rules -/
theorem va_P_l {D : va_G} {cl : List vw_C} {w1 w2 : va_W} {H : Heap} (h : va_P D cl (w1 ++ w2) H) : va_P D cl w1 H := fun k q hk => h k q (by rw [List.getElem?_append_left (List.getElem?_eq_some_iff.mp hk).1]; exact hk)
theorem va_P_r {D : va_G} {cl : List vw_C} {w1 w2 : va_W} {H : Heap} (h : va_P D cl (w1 ++ w2) H) : va_P D cl w2 H := fun k q hk => h (w1.length + k) q (by rw [List.getElem?_append_right (by omega), Nat.add_sub_cancel_left]; exact hk)
theorem va_D_l {A : Nat → Prop} {w1 w2 : va_W} (h : va_D A (w1 ++ w2)) : va_D A w1 := ⟨fun i j p q hi hj e => h.1 i j p q (by rw [List.getElem?_append_left (List.getElem?_eq_some_iff.mp hi).1]; exact hi) (by rw [List.getElem?_append_left (List.getElem?_eq_some_iff.mp hj).1]; exact hj) e, fun k q hk => h.2 k q (by rw [List.getElem?_append_left (List.getElem?_eq_some_iff.mp hk).1]; exact hk)⟩
theorem va_D_r {A : Nat → Prop} {w1 w2 : va_W} (h : va_D A (w1 ++ w2)) : va_D A w2 := ⟨fun i j p q hi hj e => by
  have := h.1 (w1.length + i) (w1.length + j) p q (by rw [List.getElem?_append_right (by omega), Nat.add_sub_cancel_left]; exact hi) (by rw [List.getElem?_append_right (by omega), Nat.add_sub_cancel_left]; exact hj) e
  omega, fun k q hk => h.2 (w1.length + k) q (by rw [List.getElem?_append_right (by omega), Nat.add_sub_cancel_left]; exact hk)⟩
theorem va_D_x {A : Nat → Prop} {w1 w2 : va_W} (h : va_D A (w1 ++ w2)) {i j : Nat} {p q : Nat × va_E} (hi : w1[i]? = some p) (hj : w2[j]? = some q) : p.1 ≠ q.1 := fun e => by
  have hl := (List.getElem?_eq_some_iff.mp hi).1
  have := h.1 i (w1.length + j) p q (by rw [List.getElem?_append_left hl]; exact hi) (by rw [List.getElem?_append_right (by omega), Nat.add_sub_cancel_left]; exact hj) e
  omega
theorem jn_l {D : va_G} {cl : List vw_C} {A0 A1 : Nat → Prop} {w1 w2 w1' : va_W} {H H1 : Heap} (hP : va_P D cl (w1 ++ w2) H) (hD : va_D A0 (w1 ++ w2)) (hk : ∀ q : Nat, q < H.size → ¬ A1 q → H1[q]? = H[q]?) (hF : ∀ q, A1 q → A0 q) (hno : ∀ (k : Nat) (q : Nat × va_E), w2[k]? = some q → ¬ A1 q.1) (hP1 : va_P D cl w1' H1) (hD1 : va_D A1 w1') : va_P D cl (w1' ++ w2) H1 ∧ va_D A0 (w1' ++ w2) :=
  ⟨va_P.app hP1 (fun k q hq => (va_P_r hP k q hq).kept (hk q.1 (va_P_r hP k q hq).lt (hno k q hq))), va_D.app (hD1.weaken (fun _ _ _ h => hF _ h)) (va_D_r hD) (fun i j p q hp hq e => hno j q hq (e ▸ hD1.2 i p hp))⟩
theorem jn_r {D : va_G} {cl : List vw_C} {A0 A1 : Nat → Prop} {w1 w2 w2' : va_W} {H H1 : Heap} (hP : va_P D cl (w1 ++ w2) H) (hD : va_D A0 (w1 ++ w2)) (hk : ∀ q : Nat, q < H.size → ¬ A1 q → H1[q]? = H[q]?) (hF : ∀ q, A1 q → A0 q) (hno : ∀ (k : Nat) (q : Nat × va_E), w1[k]? = some q → ¬ A1 q.1) (hP1 : va_P D cl w2' H1) (hD1 : va_D A1 w2') : va_P D cl (w1 ++ w2') H1 ∧ va_D A0 (w1 ++ w2') :=
  ⟨va_P.app (fun k q hq => (va_P_l hP k q hq).kept (hk q.1 (va_P_l hP k q hq).lt (hno k q hq))) hP1, va_D.app (va_D_l hD) (hD1.weaken (fun _ _ _ h => hF _ h)) (fun i j p q hp hq e => hno i p hp (e ▸ hD1.2 j q hq))⟩
theorem no_l {D : va_G} {cl : List vw_C} {A0 : Nat → Prop} {ca : Nat → ClassId} {ad : Nat → Nat} {shs : List Sh} {σ : Mm} {w2 : va_W} {H : Heap} (hP : va_P D cl (wl ca ad shs σ ++ w2) H) (hD : va_D A0 (wl ca ad shs σ ++ w2)) : ∀ (k : Nat) (q : Nat × va_E), w2[k]? = some q → ¬ Aw ad shs.length H.size q.1 := by
  intro k q hq h
  rcases h with ⟨j, hj, he⟩ | h
  · exact va_D_x hD (wl_get (List.getElem?_eq_getElem hj)) hq he.symm
  · exact absurd (va_P_r hP k q hq).lt (by omega)
theorem no_r {D : va_G} {cl : List vw_C} {A0 : Nat → Prop} {ca : Nat → ClassId} {ad : Nat → Nat} {shs : List Sh} {σ : Mm} {w1 : va_W} {H : Heap} (hP : va_P D cl (w1 ++ wl ca ad shs σ) H) (hD : va_D A0 (w1 ++ wl ca ad shs σ)) : ∀ (k : Nat) (q : Nat × va_E), w1[k]? = some q → ¬ Aw ad shs.length H.size q.1 := by
  intro k q hq h
  rcases h with ⟨j, hj, he⟩ | h
  · exact va_D_x hD hq (wl_get (List.getElem?_eq_getElem hj)) he
  · exact absurd (va_P_l hP k q hq).lt (by omega)
abbrev AL (s : State) : Nat → Prop := fun q => s.heap.size ≤ q
def wCM (ca : Nat → ClassId) (adC adM : Nat → Nat) (σC σM : Mm) : va_W := wl ca adC shC σC ++ wl ca adM shM σM
def GL (p : Program) (l : Launch) (e : Env) (s : State) (m : MethodId) (below : List Frame) (meth : Method) (c : Code) (Q : State → Prop) (D : va_G) (ca : Nat → ClassId) (adC adM : Nat → Nat) (b pc : Nat) (lv : List (Nat × Value)) (st : List Value) (σC σM : Mm) : Prop :=
  ∀ (H : Heap) (locs : List Loc) (ls : Array Slot), lv_has ls 4 lv → va_P D vcl (wCM ca adC adM σC σM) H → va_D (AL s) (wCM ca adC adM σC σM) → va_S (AL s) s.heap H locs → W p l e room_1 s m #[Value.ref b] below meth c H locs 88 13825 Q (F0 m pc ls st)
def sv (xs : Nat → Int32) (k : Nat) : Int := (xs k).toInt
theorem sv_r (xs : Nat → Int32) (k : Nat) : inR (sv xs k) := oi_rng _
theorem sv_oi (xs : Nat → Int32) (k : Nat) : oi (sv xs k) = xs k := oi_of _
theorem tbG_L {ws : List Cond} (h : ∀ w ∈ ws, w ∈ tbG) : GoodIn lw_tbl ws := fun w hw => ⟨(List.mem_filter.mp (h w hw)).1, good_of_word (List.mem_filter.mp (h w hw)).2⟩
theorem tbG_l {w : Cond} (h : w ∈ tbG) : w ∈ lw_tbl := (List.mem_filter.mp h).1
section LAWR
variable {p : Program} {l : Launch} {e : Env} {s : State} {m : MethodId} {below : List Frame} {meth : Method} {c : Code} {Q : State → Prop} {D : va_G} {ca : Nat → ClassId} {adC adM : Nat → Nat} {b pc : Nat} {lv : List (Nat × Value)} {st : List Value} {σC σM : Mm}
theorem l_aload_n (X : Cx p s m #[Value.ref b] c code 4 R_law lw_tbl D vcl ca) {k : Fin 4} {x : Nat} (q : Nat) (hl : lv[q]? = some ((k : Nat), .ref x)) (d : decode code pc = .ok (.aload_n k, 1)) (K : GL p l e s m below meth c Q D ca adC adM b (pc + 1) lv (.ref x :: st) σC σM) : GL p l e s m below meth c Q D ca adC adM b pc lv st σC σM :=
  fun H locs ls hv hP hD hS => lv_aload_n X.1 X.2.1 d rfl (lv_at hv q hl) (K H locs ls hv hP hD hS)
theorem l_iload_n (X : Cx p s m #[Value.ref b] c code 4 R_law lw_tbl D vcl ca) {k : Fin 4} {x : Int32} (q : Nat) (hl : lv[q]? = some ((k : Nat), .int x)) (d : decode code pc = .ok (.iload_n k, 1)) (K : GL p l e s m below meth c Q D ca adC adM b (pc + 1) lv (.int x :: st) σC σM) : GL p l e s m below meth c Q D ca adC adM b pc lv st σC σM :=
  fun H locs ls hv hP hD hS => lv_iload_n X.1 X.2.1 d rfl (lv_at hv q hl) (K H locs ls hv hP hD hS)
theorem l_iconst (X : Cx p s m #[Value.ref b] c code 4 R_law lw_tbl D vcl ca) {n : Int} (d : decode code pc = .ok (.iconst n, 1)) (K : GL p l e s m below meth c Q D ca adC adM b (pc + 1) lv (.int (oi n) :: st) σC σM) : GL p l e s m below meth c Q D ca adC adM b pc lv st σC σM :=
  fun H locs ls hv hP hD hS => lv_iconst X.1 X.2.1 d rfl (K H locs ls hv hP hD hS)
theorem l_bipush (X : Cx p s m #[Value.ref b] c code 4 R_law lw_tbl D vcl ca) {n : Int} (hn : (Int8.ofInt n).toInt32 = oi n) (d : decode code pc = .ok (.bipush n, 2)) (K : GL p l e s m below meth c Q D ca adC adM b (pc + 2) lv (.int (oi n) :: st) σC σM) : GL p l e s m below meth c Q D ca adC adM b pc lv st σC σM :=
  fun H locs ls hv hP hD hS => lv_bipush X.1 X.2.1 d hn (K H locs ls hv hP hD hS)
theorem l_iadd (X : Cx p s m #[Value.ref b] c code 4 R_law lw_tbl D vcl ca) {x y : Int} (d : decode code pc = .ok (.iadd, 1)) (K : GL p l e s m below meth c Q D ca adC adM b (pc + 1) lv (.int (oi (x + y)) :: st) σC σM) : GL p l e s m below meth c Q D ca adC adM b pc lv (.int (oi y) :: .int (oi x) :: st) σC σM :=
  fun H locs ls hv hP hD hS => lv_iadd X.1 X.2.1 d (by rw [oi_add]; exact K H locs ls hv hP hD hS)
theorem l_isub (X : Cx p s m #[Value.ref b] c code 4 R_law lw_tbl D vcl ca) {x y : Int} (d : decode code pc = .ok (.isub, 1)) (K : GL p l e s m below meth c Q D ca adC adM b (pc + 1) lv (.int (oi (x - y)) :: st) σC σM) : GL p l e s m below meth c Q D ca adC adM b pc lv (.int (oi y) :: .int (oi x) :: st) σC σM :=
  fun H locs ls hv hP hD hS => lv_isub X.1 X.2.1 d (by rw [oi_sub]; exact K H locs ls hv hP hD hS)
theorem l_iand (X : Cx p s m #[Value.ref b] c code 4 R_law lw_tbl D vcl ca) {x y : Int} (d : decode code pc = .ok (.iand, 1)) (K : GL p l e s m below meth c Q D ca adC adM b (pc + 1) lv (.int (oi (iAnd x y)) :: st) σC σM) : GL p l e s m below meth c Q D ca adC adM b pc lv (.int (oi y) :: .int (oi x) :: st) σC σM :=
  fun H locs ls hv hP hD hS => lv_iand X.1 X.2.1 d (by have k := K H locs ls hv hP hD hS; rw [iAnd, oi_of] at k; exact k)
theorem l_i2l (X : Cx p s m #[Value.ref b] c code 4 R_law lw_tbl D vcl ca) {x : Int} (d : decode code pc = .ok (.i2l, 1)) (K : GL p l e s m below meth c Q D ca adC adM b (pc + 1) lv (.long (i2L x) :: st) σC σM) : GL p l e s m below meth c Q D ca adC adM b pc lv (.int (oi x) :: st) σC σM :=
  fun H locs ls hv hP hD hS => lv_i2l X.1 X.2.1 d rfl (K H locs ls hv hP hD hS)
theorem l_lshl (X : Cx p s m #[Value.ref b] c code 4 R_law lw_tbl D vcl ca) {x : Int64} {y : Int} (d : decode code pc = .ok (.lshl, 1)) (K : GL p l e s m below meth c Q D ca adC adM b (pc + 1) lv (.long (lShl x y) :: st) σC σM) : GL p l e s m below meth c Q D ca adC adM b pc lv (.int (oi y) :: .long x :: st) σC σM :=
  fun H locs ls hv hP hD hS => lv_lshl X.1 X.2.1 d rfl (K H locs ls hv hP hD hS)
theorem l_land (X : Cx p s m #[Value.ref b] c code 4 R_law lw_tbl D vcl ca) {x y : Int64} (d : decode code pc = .ok (.land, 1)) (K : GL p l e s m below meth c Q D ca adC adM b (pc + 1) lv (.long (x &&& y) :: st) σC σM) : GL p l e s m below meth c Q D ca adC adM b pc lv (.long y :: .long x :: st) σC σM :=
  fun H locs ls hv hP hD hS => lv_land X.1 X.2.1 d (K H locs ls hv hP hD hS)
theorem l_lor (X : Cx p s m #[Value.ref b] c code 4 R_law lw_tbl D vcl ca) {x y : Int64} (d : decode code pc = .ok (.lor, 1)) (K : GL p l e s m below meth c Q D ca adC adM b (pc + 1) lv (.long (x ||| y) :: st) σC σM) : GL p l e s m below meth c Q D ca adC adM b pc lv (.long y :: .long x :: st) σC σM :=
  fun H locs ls hv hP hD hS => lv_lor X.1 X.2.1 d (K H locs ls hv hP hD hS)
theorem l_ldc2 (X : Cx p s m #[Value.ref b] c code 4 R_law lw_tbl D vcl ca) {i : Nat} (v : Int64) (hw : Cond.constantLong R_law i v ∈ lw_tbl) (d : decode code pc = .ok (.ldc2_w i, 3)) (K : GL p l e s m below meth c Q D ca adC adM b (pc + 3) lv (.long v :: st) σC σM) : GL p l e s m below meth c Q D ca adC adM b pc lv st σC σM :=
  fun H locs ls hv hP hD hS => lv_ldc2 X.1 X.2.1 X.2.2.2.1 (X.2.2.2.2.1 _ hw) d (K H locs ls hv hP hD hS)
theorem l_goto (X : Cx p s m #[Value.ref b] c code 4 R_law lw_tbl D vcl ca) {off : Int} (tgt : Nat) (ht : (pc : Int) + off = (tgt : Int)) (d : decode code pc = .ok (.goto off, 3)) (K : GL p l e s m below meth c Q D ca adC adM b tgt lv st σC σM) : GL p l e s m below meth c Q D ca adC adM b pc lv st σC σM :=
  fun H locs ls hv hP hD hS => lv_goto X.1 X.2.1 d ht (K H locs ls hv hP hD hS)
theorem l_iinc (X : Cx p s m #[Value.ref b] c code 4 R_law lw_tbl D vcl ca) {k : Nat} {n x : Int} (lv' : List (Nat × Value)) (d : decode code pc = .ok (.iinc k n, 3)) (hn : k < 4) (q : Nat) (hk : lv[q]? = some (k, .int (oi x))) (hl : (k, Value.int (oi (x + n))) :: lv.filter (fun q => !(q.1 == k) && !(q.1 + 1 == k && q.2.category == 2)) = lv') (K : GL p l e s m below meth c Q D ca adC adM b (pc + 3) lv' st σC σM) : GL p l e s m below meth c Q D ca adC adM b pc lv st σC σM :=
  fun H locs ls hv hP hD hS => lv_iinc X.1 X.2.1 d hv hk (oi_add x n) hn hl (fun ls' hv' => K H locs ls' hv' hP hD hS)
theorem l_istore_n (X : Cx p s m #[Value.ref b] c code 4 R_law lw_tbl D vcl ca) {k : Fin 4} {x : Int32} (lv' : List (Nat × Value)) (d : decode code pc = .ok (.istore_n k, 1)) (hn : (k : Nat) < 4) (hl : ((k : Nat), Value.int x) :: lv.filter (fun q => !(q.1 == (k : Nat)) && !(q.1 + 1 == (k : Nat) && q.2.category == 2)) = lv') (K : GL p l e s m below meth c Q D ca adC adM b (pc + 1) lv' st σC σM) : GL p l e s m below meth c Q D ca adC adM b pc lv (.int x :: st) σC σM :=
  fun H locs ls hv hP hD hS => lv_istore_n X.1 X.2.1 d rfl hv hn hl (fun ls' hv' => K H locs ls' hv' hP hD hS)
theorem l_sub (lv' : List (Nat × Value)) (ks : List Nat) (hl : lv_pick lv ks = lv') (K : GL p l e s m below meth c Q D ca adC adM b pc lv' st σC σM) : GL p l e s m below meth c Q D ca adC adM b pc lv st σC σM :=
  fun H locs ls hv hP hD hS => K H locs ls (lv_sub hv ks hl) hP hD hS
theorem l_sld (X : Cx p s m #[Value.ref b] c code 4 R_law lw_tbl D vcl ca) {L : Nat} {xs : Nat → Int32} (hX : va_X b L xs s s.heap) (hbl : b < s.heap.size) (hL : L < 2147483648) {i : Int} (hi : 0 ≤ i ∧ i < (L : Int)) (d : decode code pc = .ok (.iaload, 1)) (K : GL p l e s m below meth c Q D ca adC adM b (pc + 1) lv (.int (oi (sv xs i.toNat)) :: st) σC σM) : GL p l e s m below meth c Q D ca adC adM b pc lv (.int (oi i) :: .ref b :: st) σC σM := by
  intro H locs ls hv hP hD hS
  obtain ⟨h3, h4⟩ := oi_in hi hL
  refine va_sld X.1 X.2.1 hX hbl (Nat.not_le.mpr hbl) hS h3 d ?_
  rw [h4, ← sv_oi xs i.toNat]
  exact K H locs ls hv hP hD hS
theorem l_slen (X : Cx p s m #[Value.ref b] c code 4 R_law lw_tbl D vcl ca) {L : Nat} {xs : Nat → Int32} (hX : va_X b L xs s s.heap) (hbl : b < s.heap.size) (d : decode code pc = .ok (.arraylength, 1)) (K : GL p l e s m below meth c Q D ca adC adM b (pc + 1) lv (.int (oi (L : Int)) :: st) σC σM) : GL p l e s m below meth c Q D ca adC adM b pc lv (.ref b :: st) σC σM := by
  intro H locs ls hv hP hD hS
  refine va_slen X.1 X.2.1 hX hbl (Nat.not_le.mpr hbl) hS d ?_
  rw [show Int32.ofNat L = oi (L : Int) from Int32.ofInt_eq_ofNat.symm]
  exact K H locs ls hv hP hD hS
theorem l_gt (X : Cx p s m #[Value.ref b] c code 4 R_law lw_tbl D vcl ca) {x y : Int} (hx : inR x) (hy : inR y) {off : Int} (tgt : Nat) (d : decode code pc = .ok (.if_icmp .gt off, 3)) (ht : (pc : Int) + off = (tgt : Int)) (KP : y < x → GL p l e s m below meth c Q D ca adC adM b tgt lv st σC σM) (KN : ¬ y < x → GL p l e s m below meth c Q D ca adC adM b (pc + 3) lv st σC σM) : GL p l e s m below meth c Q D ca adC adM b pc lv (.int (oi y) :: .int (oi x) :: st) σC σM :=
  fun H locs ls hv hP hD hS => lv_icmp_gt X.1 X.2.1 d ht (fun hc => KP ((oi_lt hy hx).mp hc) H locs ls hv hP hD hS) (fun hc => KN (fun z => hc ((oi_lt hy hx).mpr z)) H locs ls hv hP hD hS)
theorem l_same (X : Cx p s m #[Value.ref b] c code 4 R_law lw_tbl D vcl ca) {x : Int32} {off : Int} (tgt : Nat) (d : decode code pc = .ok (.if_icmp .eq off, 3)) (ht : (pc : Int) + off = (tgt : Int)) (K : GL p l e s m below meth c Q D ca adC adM b tgt lv st σC σM) : GL p l e s m below meth c Q D ca adC adM b pc lv (.int x :: .int x :: st) σC σM :=
  fun H locs ls hv hP hD hS => lv_icmp_eq X.1 X.2.1 d ht (fun _ => K H locs ls hv hP hD hS) (fun hc => absurd rfl hc)
theorem l_sameL (X : Cx p s m #[Value.ref b] c code 4 R_law lw_tbl D vcl ca) {x : Int64} {off : Int} (tgt : Nat) (d : decode code pc = .ok (.lcmp, 1)) (d2 : decode code (pc + 1) = .ok (.ifCond .eq off, 3)) (ht : ((pc + 1 : Nat) : Int) + off = (tgt : Int)) (K : GL p l e s m below meth c Q D ca adC adM b tgt lv st σC σM) : GL p l e s m below meth c Q D ca adC adM b pc lv (.long x :: .long x :: st) σC σM :=
  fun H locs ls hv hP hD hS => W.lcmp X.1 X.2.1 d (lv_if_eq X.1 X.2.1 d2 ht (fun _ => K H locs ls hv hP hD hS) (fun hc => absurd ((lg_cmp_eq x x).mpr rfl) hc))
theorem l_tswIn (X : Cx p s m #[Value.ref b] c code 4 R_law lw_tbl D vcl ca) {x : Int} (hx : inR x) {dflt lo hi : Int} {offs : Array Int} {len : Nat} (i : Int) (off : Int) (tgt : Nat) (hi1 : x = i) (d : decode code pc = .ok (.tableswitch dflt lo hi offs, len)) (hi2 : lo ≤ i ∧ i ≤ hi) (ho : offs[(i - lo).toNat]? = some off) (ht : (pc : Int) + off = (tgt : Int)) (K : GL p l e s m below meth c Q D ca adC adM b tgt lv st σC σM) : GL p l e s m below meth c Q D ca adC adM b pc lv (.int (oi x) :: st) σC σM :=
  fun H locs ls hv hP hD hS => lv_tableIn X.1 X.2.1 d (by rw [oi_toInt hx, hi1]; omega) (by rw [oi_toInt hx, hi1]; omega) (by rw [oi_toInt hx, hi1]; exact ho) ht (K H locs ls hv hP hD hS)
theorem l_ret (X : Cx p s m #[Value.ref b] c code 4 R_law lw_tbl D vcl ca) (hr : meth.sig.returnType = ret) (hlk : meth.locks = false) (d : decode code pc = .ok (.ireturn, 1)) : GL p l e s m below meth c (lw_Z below #[Value.ref b] s) D ca adC adM b pc lv [.int (oi 1)] σC σM := by
  intro H locs ls hv hP hD hS
  refine va_forget (fun q hq => hS.2.2 q hq) ?_
  exact lw_ret X.1 X.2.1 hr hlk d
theorem l_callCI (X : Cx p s m #[Value.ref b] c code 4 R_law lw_tbl D vcl ca) {N : State → Prop} {y : MethodName} {bytes : ByteArray} {maxL n idx : Nat} {rt : Option FieldType} {ws : List Cond} {rm : Room} {as st0 : List Value} {x : Option (Int × Mm)} {r : Int × Mm} (hc : CtI l D vcl ca adC shC N y ws rm (.ref (adC 0) :: as) σC x) (hx : x = some r) (hRg : Rg σC) (cw : CallW room_1 s #[Value.ref b] R_law RX6 idx y bytes maxL rt ws rm 0 0 n) (hn : as.length = n) (hst : st0 = as.reverse ++ .ref (adC 0) :: st) (hcat : (st.map fun v => v.category).sum ≤ 8) (d : decode code pc = .ok (.invokevirtual idx, 3)) (hNb : ∀ (U : State) (g : JFrame) (mk : MethodId) (a : Array Value), N U → N (U.calling g mk a)) (hN : ∀ (H : Heap) (locs : List Loc), va_S (AL s) s.heap H locs → va_D (AL s) (wl ca adC shC σC) → ∀ U : State, U.heap = H → s.WarmedH U.vm → N U) (K : inR r.1 → Rg r.2 → GL p l e s m below meth c Q D ca adC adM b (pc + 3) lv (.int (oi r.1) :: st) r.2 σM) : GL p l e s m below meth c Q D ca adC adM b pc lv st0 σC σM := by
  intro H locs ls hv hP hD hS
  have hPc := va_P_l hP
  have hDc := va_D_l hD
  have hF : ∀ q, Aw adC shC.length H.size q → AL s q := Aw_in (fun _ h => h) hDc hS
  have hB : FrameBlind (PcW D vcl ca adC shC N (.ref (adC 0) :: as) σC H.size) := by
    intro a U g mk q
    obtain ⟨q0, q1, qP, qK, qD, qN⟩ := q
    exact ⟨q0, q1, qP, va_K.moved (u := U) (U := U.calling g mk a) (Vm.Alike.refl U.vm) qK, qD, hNb U g mk a qN⟩
  refine va_calli (va_runV (As := as) (rest := st) ⟨X.1, X.2.1, X.2.2.1, X.2.2.2.1, X.2.2.2.2.1⟩ (hc r hx hRg H.size) cw ⟨hB, va_recv X.2.2.2.2.2 hPc rfl (wl_get hC0), fun U hU hW => ⟨rfl, by rw [hU], by rw [hU]; exact hPc, va_K.moved hW.alike X.2.2.2.2.2, hDc.weaken (fun _ _ _ _ => trivial), hN H locs hS hDc U hU hW⟩⟩ rfl hn hv.1 hst (lv_room hcat) d ⟨Nat.le_of_ble_eq_true rfl, Nat.le_of_ble_eq_true rfl⟩) hS (fun q _ h => hF q h) hF (fun v u t H1 locs1 ht hvm hp hBw hz1 hk1 hS1 => ?_)
  obtain ⟨rfl, rfl, hr1, hr2⟩ := hp
  obtain ⟨hP1, hD1⟩ := hBw
  rw [ht] at hP1
  obtain ⟨hP2, hD2⟩ := jn_l hP hD hk1 hF (no_l hP hD) hP1 hD1
  exact K hr1 hr2 H1 locs1 ls hv hP2 hD2 hS1
theorem l_callCL (X : Cx p s m #[Value.ref b] c code 4 R_law lw_tbl D vcl ca) {N : State → Prop} {y : MethodName} {bytes : ByteArray} {maxL n idx : Nat} {rt : Option FieldType} {ws : List Cond} {rm : Room} {as st0 : List Value} {x : Option (Int64 × Mm)} {r : Int64 × Mm} (hc : CtL l D vcl ca adC shC N y ws rm (.ref (adC 0) :: as) σC x) (hx : x = some r) (hRg : Rg σC) (cw : CallW room_1 s #[Value.ref b] R_law RX6 idx y bytes maxL rt ws rm 0 0 n) (hn : as.length = n) (hst : st0 = as.reverse ++ .ref (adC 0) :: st) (hcat : (st.map fun v => v.category).sum ≤ 8) (d : decode code pc = .ok (.invokevirtual idx, 3)) (hNb : ∀ (U : State) (g : JFrame) (mk : MethodId) (a : Array Value), N U → N (U.calling g mk a)) (hN : ∀ (H : Heap) (locs : List Loc), va_S (AL s) s.heap H locs → va_D (AL s) (wl ca adC shC σC) → ∀ U : State, U.heap = H → s.WarmedH U.vm → N U) (K : Rg r.2 → GL p l e s m below meth c Q D ca adC adM b (pc + 3) lv (.long r.1 :: st) r.2 σM) : GL p l e s m below meth c Q D ca adC adM b pc lv st0 σC σM := by
  intro H locs ls hv hP hD hS
  have hPc := va_P_l hP
  have hDc := va_D_l hD
  have hF : ∀ q, Aw adC shC.length H.size q → AL s q := Aw_in (fun _ h => h) hDc hS
  have hB : FrameBlind (PcW D vcl ca adC shC N (.ref (adC 0) :: as) σC H.size) := by
    intro a U g mk q
    obtain ⟨q0, q1, qP, qK, qD, qN⟩ := q
    exact ⟨q0, q1, qP, va_K.moved (u := U) (U := U.calling g mk a) (Vm.Alike.refl U.vm) qK, qD, hNb U g mk a qN⟩
  refine va_calll (va_runV (As := as) (rest := st) ⟨X.1, X.2.1, X.2.2.1, X.2.2.2.1, X.2.2.2.2.1⟩ (hc r hx hRg H.size) cw ⟨hB, va_recv X.2.2.2.2.2 hPc rfl (wl_get hC0), fun U hU hW => ⟨rfl, by rw [hU], by rw [hU]; exact hPc, va_K.moved hW.alike X.2.2.2.2.2, hDc.weaken (fun _ _ _ _ => trivial), hN H locs hS hDc U hU hW⟩⟩ rfl hn hv.1 hst (lv_room hcat) d ⟨Nat.le_of_ble_eq_true rfl, Nat.le_of_ble_eq_true rfl⟩) hS (fun q _ h => hF q h) hF (fun v u t H1 locs1 ht hvm hp hBw hz1 hk1 hS1 => ?_)
  obtain ⟨rfl, rfl, hr2⟩ := hp
  obtain ⟨hP1, hD1⟩ := hBw
  rw [ht] at hP1
  obtain ⟨hP2, hD2⟩ := jn_l hP hD hk1 hF (no_l hP hD) hP1 hD1
  exact K hr2 H1 locs1 ls hv hP2 hD2 hS1
theorem l_callMI (X : Cx p s m #[Value.ref b] c code 4 R_law lw_tbl D vcl ca) {N : State → Prop} {y : MethodName} {bytes : ByteArray} {maxL n idx : Nat} {rt : Option FieldType} {ws : List Cond} {rm : Room} {as st0 : List Value} {x : Option (Int × Mm)} {r : Int × Mm} (hc : CtI l D vcl ca adM shM N y ws rm (.ref (adM 0) :: as) σM x) (hx : x = some r) (hRg : Rg σM) (cw : CallW room_1 s #[Value.ref b] R_law RX7 idx y bytes maxL rt ws rm 0 0 n) (hn : as.length = n) (hst : st0 = as.reverse ++ .ref (adM 0) :: st) (hcat : (st.map fun v => v.category).sum ≤ 8) (d : decode code pc = .ok (.invokevirtual idx, 3)) (hNb : ∀ (U : State) (g : JFrame) (mk : MethodId) (a : Array Value), N U → N (U.calling g mk a)) (hN : ∀ (H : Heap) (locs : List Loc), va_S (AL s) s.heap H locs → va_D (AL s) (wl ca adM shM σM) → ∀ U : State, U.heap = H → s.WarmedH U.vm → N U) (K : inR r.1 → Rg r.2 → GL p l e s m below meth c Q D ca adC adM b (pc + 3) lv (.int (oi r.1) :: st) σC r.2) : GL p l e s m below meth c Q D ca adC adM b pc lv st0 σC σM := by
  intro H locs ls hv hP hD hS
  have hPc := va_P_r hP
  have hDc := va_D_r hD
  have hF : ∀ q, Aw adM shM.length H.size q → AL s q := Aw_in (fun _ h => h) hDc hS
  have hB : FrameBlind (PcW D vcl ca adM shM N (.ref (adM 0) :: as) σM H.size) := by
    intro a U g mk q
    obtain ⟨q0, q1, qP, qK, qD, qN⟩ := q
    exact ⟨q0, q1, qP, va_K.moved (u := U) (U := U.calling g mk a) (Vm.Alike.refl U.vm) qK, qD, hNb U g mk a qN⟩
  refine va_calli (va_runV (As := as) (rest := st) ⟨X.1, X.2.1, X.2.2.1, X.2.2.2.1, X.2.2.2.2.1⟩ (hc r hx hRg H.size) cw ⟨hB, va_recv X.2.2.2.2.2 hPc rfl (wl_get hM0), fun U hU hW => ⟨rfl, by rw [hU], by rw [hU]; exact hPc, va_K.moved hW.alike X.2.2.2.2.2, hDc.weaken (fun _ _ _ _ => trivial), hN H locs hS hDc U hU hW⟩⟩ rfl hn hv.1 hst (lv_room hcat) d ⟨Nat.le_of_ble_eq_true rfl, Nat.le_of_ble_eq_true rfl⟩) hS (fun q _ h => hF q h) hF (fun v u t H1 locs1 ht hvm hp hBw hz1 hk1 hS1 => ?_)
  obtain ⟨rfl, rfl, hr1, hr2⟩ := hp
  obtain ⟨hP1, hD1⟩ := hBw
  rw [ht] at hP1
  obtain ⟨hP2, hD2⟩ := jn_r hP hD hk1 hF (no_r hP hD) hP1 hD1
  exact K hr1 hr2 H1 locs1 ls hv hP2 hD2 hS1
theorem l_callML (X : Cx p s m #[Value.ref b] c code 4 R_law lw_tbl D vcl ca) {N : State → Prop} {y : MethodName} {bytes : ByteArray} {maxL n idx : Nat} {rt : Option FieldType} {ws : List Cond} {rm : Room} {as st0 : List Value} {x : Option (Int64 × Mm)} {r : Int64 × Mm} (hc : CtL l D vcl ca adM shM N y ws rm (.ref (adM 0) :: as) σM x) (hx : x = some r) (hRg : Rg σM) (cw : CallW room_1 s #[Value.ref b] R_law RX7 idx y bytes maxL rt ws rm 0 0 n) (hn : as.length = n) (hst : st0 = as.reverse ++ .ref (adM 0) :: st) (hcat : (st.map fun v => v.category).sum ≤ 8) (d : decode code pc = .ok (.invokevirtual idx, 3)) (hNb : ∀ (U : State) (g : JFrame) (mk : MethodId) (a : Array Value), N U → N (U.calling g mk a)) (hN : ∀ (H : Heap) (locs : List Loc), va_S (AL s) s.heap H locs → va_D (AL s) (wl ca adM shM σM) → ∀ U : State, U.heap = H → s.WarmedH U.vm → N U) (K : Rg r.2 → GL p l e s m below meth c Q D ca adC adM b (pc + 3) lv (.long r.1 :: st) σC r.2) : GL p l e s m below meth c Q D ca adC adM b pc lv st0 σC σM := by
  intro H locs ls hv hP hD hS
  have hPc := va_P_r hP
  have hDc := va_D_r hD
  have hF : ∀ q, Aw adM shM.length H.size q → AL s q := Aw_in (fun _ h => h) hDc hS
  have hB : FrameBlind (PcW D vcl ca adM shM N (.ref (adM 0) :: as) σM H.size) := by
    intro a U g mk q
    obtain ⟨q0, q1, qP, qK, qD, qN⟩ := q
    exact ⟨q0, q1, qP, va_K.moved (u := U) (U := U.calling g mk a) (Vm.Alike.refl U.vm) qK, qD, hNb U g mk a qN⟩
  refine va_calll (va_runV (As := as) (rest := st) ⟨X.1, X.2.1, X.2.2.1, X.2.2.2.1, X.2.2.2.2.1⟩ (hc r hx hRg H.size) cw ⟨hB, va_recv X.2.2.2.2.2 hPc rfl (wl_get hM0), fun U hU hW => ⟨rfl, by rw [hU], by rw [hU]; exact hPc, va_K.moved hW.alike X.2.2.2.2.2, hDc.weaken (fun _ _ _ _ => trivial), hN H locs hS hDc U hU hW⟩⟩ rfl hn hv.1 hst (lv_room hcat) d ⟨Nat.le_of_ble_eq_true rfl, Nat.le_of_ble_eq_true rfl⟩) hS (fun q _ h => hF q h) hF (fun v u t H1 locs1 ht hvm hp hBw hz1 hk1 hS1 => ?_)
  obtain ⟨rfl, rfl, hr2⟩ := hp
  obtain ⟨hP1, hD1⟩ := hBw
  rw [ht] at hP1
  obtain ⟨hP2, hD2⟩ := jn_r hP hD hk1 hF (no_r hP hD) hP1 hD1
  exact K hr2 H1 locs1 ls hv hP2 hD2 hS1
end LAWR
