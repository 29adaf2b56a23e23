/-! CONSTRUCTORS: worlds that grow -/
def refsOK (shs : List Sh) : Bool := shs.all (fun sh => sh.2.2.all (fun d => d.1 != 2 || decide (d.2 < shs.length)))
theorem fds_ad {ad ad' : Nat → Nat} {σ : Mm} {k n : Nat} (h : ∀ z, z < n → ad' z = ad z) : ∀ (ds : List (Nat × Nat)) (j : Nat), ds.all (fun d => d.1 != 2 || decide (d.2 < n)) = true → fds ad σ k j ds = fds ad' σ k j ds
  | [], _, _ => rfl
  | d :: ds, j, ho => by
    rw [List.all_cons, Bool.and_eq_true] at ho
    show vfd ad σ k j d :: fds ad σ k (j + 1) ds = vfd ad' σ k j d :: fds ad' σ k (j + 1) ds
    rw [fds_ad h ds (j + 1) ho.2]
    congr 1
    obtain ⟨t, z⟩ := d
    match t, ho.1 with
    | 0, _ => rfl
    | 1, _ => rfl
    | 2, h2 =>
      have hz : z < n := by simpa using h2
      show Value.ref (ad z) = Value.ref (ad' z)
      rw [h z hz]
    | t + 3, _ => rfl
theorem cel_ad {ca : Nat → ClassId} {ad ad' : Nat → Nat} {σ : Mm} {k n : Nat} {sh : Sh} (h : ∀ z, z < n → ad' z = ad z) (ho : sh.2.2.all (fun d => d.1 != 2 || decide (d.2 < n)) = true) : cel ca ad σ k sh = cel ca ad' σ k sh := by
  unfold cel
  rw [fds_ad h _ _ ho]
theorem wl_ad {ca : Nat → ClassId} {ad ad' : Nat → Nat} {shs : List Sh} {σ : Mm} (h : ∀ k, k < shs.length → ad' k = ad k) (ho : refsOK shs = true) : wl ca ad shs σ = wl ca ad' shs σ := by
  apply List.ext_getElem?
  intro i
  cases hs : shs[i]? with
  | none =>
    have hl : shs.length ≤ i := List.getElem?_eq_none_iff.mp hs
    rw [List.getElem?_eq_none (by rw [wl_len]; exact hl), List.getElem?_eq_none (by rw [wl_len]; exact hl)]
  | some sh =>
    have hi := (List.getElem?_eq_some_iff.mp hs).1
    have hm : sh ∈ shs := List.mem_of_getElem? hs
    rw [wl_get hs, wl_get hs, h i hi, cel_ad h (List.all_eq_true.mp ho sh hm)]
theorem wl_push {ca : Nat → ClassId} {ad : Nat → Nat} {shs : List Sh} {σ : Mm} {sh : Sh} : wl ca ad shs σ ++ [(ad shs.length, cel ca ad σ shs.length sh)] = wl ca ad (shs ++ [sh]) σ := by
  unfold wl
  rw [List.zipIdx_append, List.map_append]
  simp
theorem wl_setsh {ca : Nat → ClassId} {ad : Nat → Nat} {shs : List Sh} {σ : Mm} {k : Nat} {sh' : Sh} (hk : k < shs.length) : (wl ca ad shs σ).set k (ad k, cel ca ad σ k sh') = wl ca ad (shs.set k sh') σ := by
  apply List.ext_getElem?
  intro i
  by_cases hi : k = i
  · subst hi
    rw [List.getElem?_set_self (by rw [wl_len]; exact hk), wl_get (List.getElem?_set_self hk)]
  · rw [List.getElem?_set_ne hi]
    cases hs : shs[i]? with
    | none =>
      have hl : shs.length ≤ i := List.getElem?_eq_none_iff.mp hs
      rw [List.getElem?_eq_none (by rw [wl_len]; exact hl), List.getElem?_eq_none (by rw [wl_len, List.length_set]; exact hl)]
    | some sh => rw [wl_get hs, wl_get (by rw [List.getElem?_set_ne hi]; exact hs)]
theorem fds_setR {ad : Nat → Nat} {σ : Mm} {k i z : Nat} {ds : List (Nat × Nat)} (hi : i < ds.length) : (fds ad σ k 0 ds).set i (.ref (ad z)) = fds ad σ k 0 (ds.set i (2, z)) := by
  apply List.ext_getElem?
  intro q
  by_cases hq : i = q
  · subst hq
    rw [List.getElem?_set_self (by rw [fds_len]; exact hi), fds_get, List.getElem?_set_self hi]
    rfl
  · rw [List.getElem?_set_ne hq, fds_get, fds_get, List.getElem?_set_ne hq]
def GN (p : Program) (l : Launch) (e : Env) (R : Room) (s : State) (m : MethodId) (args : Array Value) (below : List Frame) (meth : Method) (c : Code) (Q : State → Prop) (nL : Nat) (D : va_G) (cl : List vw_C) (ca : Nat → ClassId) (A : Nat → Prop) (ad : Nat → Nat) (shs : List Sh) (σ : Mm) (pc : Nat) (lv : List (Nat × Value)) (st : List Value) (cells slots : Nat) : Prop :=
  ∀ (H : Heap) (locs : List Loc) (ls : Array Slot), lv_has ls nL lv → va_P D cl (wl ca ad shs σ) H → va_D A (wl ca ad shs σ) → va_S A s.heap H locs → W p l e R s m args below meth c H locs cells slots Q (F0 m pc ls st)
section CTOR
variable {p : Program} {l : Launch} {e : Env} {R : Room} {s : State} {m : MethodId} {args : Array Value} {below : List Frame} {meth : Method} {c : Code} {Q : State → Prop} {nL : Nat} {D : va_G} {cl : List vw_C} {ca : Nat → ClassId} {ad : Nat → Nat} {shs shs' : List Sh} {A : Nat → Prop}
variable {cc : ByteArray} {own : String} {Ts : List Cond} {pc : Nat} {lv : List (Nat × Value)} {st : List Value} {σ : Mm} {cells slots : Nat}
theorem n_aload_n (X : Cx p s m args c cc nL own Ts D cl ca) {k : Fin 4} {x : Nat} (d : decode cc pc = .ok (.aload_n k, 1)) (q : Nat) (hl : lv[q]? = some ((k : Nat), .ref x)) (K : GN p l e R s m args below meth c Q nL D cl ca A ad shs σ (pc + 1) lv (.ref x :: st) cells slots) : GN p l e R s m args below meth c Q nL D cl ca A ad shs σ pc lv st cells slots :=
  fun H locs ls hv hP hD hS => lv_aload_n X.1 X.2.1 d rfl (lv_at hv q hl) (K H locs ls hv hP hD hS)
theorem n_astore_n (X : Cx p s m args c cc nL own Ts D cl ca) {k : Fin 4} {x : Nat} (lv' : List (Nat × Value)) (d : decode cc pc = .ok (.astore_n k, 1)) (hn : (k : Nat) < nL) (hl : ((k : Nat), Value.ref x) :: lv.filter (fun q => !(q.1 == (k : Nat)) && !(q.1 + 1 == (k : Nat) && q.2.category == 2)) = lv') (K : GN p l e R s m args below meth c Q nL D cl ca A ad shs σ (pc + 1) lv' st cells slots) : GN p l e R s m args below meth c Q nL D cl ca A ad shs σ pc lv (.ref x :: st) cells slots :=
  fun H locs ls hv hP hD hS => lv_astore_n X.1 X.2.1 d rfl hv hn hl (fun ls' hv' => K H locs ls' hv' hP hD hS)
theorem n_iconst (X : Cx p s m args c cc nL own Ts D cl ca) {n : Int} (d : decode cc pc = .ok (.iconst n, 1)) (K : GN p l e R s m args below meth c Q nL D cl ca A ad shs σ (pc + 1) lv (.int (oi n) :: st) cells slots) : GN p l e R s m args below meth c Q nL D cl ca A ad shs σ pc lv st cells slots :=
  fun H locs ls hv hP hD hS => lv_iconst X.1 X.2.1 d rfl (K H locs ls hv hP hD hS)
theorem n_bipush (X : Cx p s m args c cc nL own Ts D cl ca) {n : Int} (d : decode cc pc = .ok (.bipush n, 2)) (hn : (Int8.ofInt n).toInt32 = oi n) (K : GN p l e R s m args below meth c Q nL D cl ca A ad shs σ (pc + 2) lv (.int (oi n) :: st) cells slots) : GN p l e R s m args below meth c Q nL D cl ca A ad shs σ pc lv st cells slots :=
  fun H locs ls hv hP hD hS => lv_bipush X.1 X.2.1 d hn (K H locs ls hv hP hD hS)
theorem n_sipush (X : Cx p s m args c cc nL own Ts D cl ca) {n : Int} (d : decode cc pc = .ok (.sipush n, 3)) (hn : (Int16.ofInt n).toInt32 = oi n) (K : GN p l e R s m args below meth c Q nL D cl ca A ad shs σ (pc + 3) lv (.int (oi n) :: st) cells slots) : GN p l e R s m args below meth c Q nL D cl ca A ad shs σ pc lv st cells slots :=
  fun H locs ls hv hP hD hS => lv_sipush X.1 X.2.1 d hn (K H locs ls hv hP hD hS)
theorem n_lconst (X : Cx p s m args c cc nL own Ts D cl ca) {n : Fin 2} (v : Int64) (d : decode cc pc = .ok (.lconst n, 1)) (hn : Int64.ofNat (n : Nat) = v) (K : GN p l e R s m args below meth c Q nL D cl ca A ad shs σ (pc + 1) lv (.long v :: st) cells slots) : GN p l e R s m args below meth c Q nL D cl ca A ad shs σ pc lv st cells slots :=
  fun H locs ls hv hP hD hS => lv_lconst X.1 X.2.1 d hn (K H locs ls hv hP hD hS)
theorem n_dup (X : Cx p s m args c cc nL own Ts D cl ca) {v : Value} (d : decode cc pc = .ok (.dup, 1)) (hv1 : v.category = 1) (K : GN p l e R s m args below meth c Q nL D cl ca A ad shs σ (pc + 1) lv (v :: v :: st) cells slots) : GN p l e R s m args below meth c Q nL D cl ca A ad shs σ pc lv (v :: st) cells slots :=
  fun H locs ls hv hP hD hS => lv_dup X.1 X.2.1 d hv1 (K H locs ls hv hP hD hS)
theorem n_obj (X : Cx p s m args c cc nL own Ts D cl ca) {idx a : Nat} (w1 : Cond.methodLink own idx Lib.objectInit ∈ Ts) (w2 : Cond.instanceMethod Lib.objectInit ∈ Ts) (w3 : Cond.code Lib.objectInit ⟨#[0xb1]⟩ 1 none ∈ Ts) (d : decode cc pc = .ok (.invokespecial idx, 3)) (hfr : 1 ≤ R.frames) (hlo : 2 * (F0 m pc (#[] : Array Slot) ([] : List Value)).monitorRoom + (st.map fun v => v.category).sum + 12 ≤ R.locals) (K : GN p l e R s m args below meth c Q nL D cl ca A ad shs σ (pc + 3) lv st cells slots) : GN p l e R s m args below meth c Q nL D cl ca A ad shs σ pc lv (.ref a :: st) cells slots :=
  fun H locs ls hv hP hD hS => W.objInit X.1 X.2.1 X.2.2.2.1 (X.2.2.2.2.1 _ w1) (X.2.2.2.2.1 _ w2) (X.2.2.2.2.1 _ w3) rfl (by rw [X.2.2.1]; exact hv.1) rfl d hfr hlo (K H locs ls hv hP hD hS)
/-! what is made -/
theorem adx (ad : Nat → Nat) (n q : Nat) : ∃ ad' : Nat → Nat, (∀ k, k < n → ad' k = ad k) ∧ ad' n = q :=
  ⟨fun k => if k = n then q else ad k, fun k hk => if_neg (by omega), if_pos rfl⟩
theorem n_arr (X : Cx p s m args c cc nL own Ts D cl ca) (hA : ∀ q, s.heap.size ≤ q → A q) {atype : ArrayType} {tg n : Nat} {ty : FieldType} {a0 : vp_A} (w : Cond.arrayClass (newarray.typeOf atype) ∈ Ts) (hty : newarray.typeOf atype = ty) (ha : ∀ cA : ClassId, vp_cell cA a0 = arrV cA n (fun _ => defaultValue ty))
    (hn1 : n < 2147483648) (hbytes : n * componentBytes ty ≤ 536870912) (hcells : cells + 1 ≤ R.cells) (hslots : slots + n ≤ R.slots) (hcel : ∀ (ad' : Nat → Nat) (cA : ClassId), va_K D cl (tysA ca ++ [(cA, ty)]) s → (.inl (cA, a0) : va_E) = cel ca ad' σ shs.length (tg, n, [])) (hsh : shs ++ [(tg, n, [])] = shs') (ho : refsOK shs = true) (d : decode cc pc = .ok (.newarray atype, 2))
    (K : ∀ (ad' : Nat → Nat) (q : Nat), (∀ k, k < shs.length → ad' k = ad k) → ad' shs.length = q → GN p l e R s m args below meth c Q nL D cl ca A ad' shs' σ (pc + 2) lv (.ref q :: st) (cells + 1) (slots + n)) : GN p l e R s m args below meth c Q nL D cl ca A ad shs σ pc lv (.int (oi n) :: st) cells slots := by
  intro H locs ls hv hP hD hS
  have hr : inR (n : Int) := ⟨by omega, by omega⟩
  refine va_newa (N' := n) (a0 := a0) X.1 X.2.1 (X.2.2.2.2.1 _ w) hty X.2.2.2.2.2 hP hD hS hA ha (fun z => absurd ((oi_lt0 hr).mp z) (by omega)) (by rw [← Int32.toNat_toInt, oi_toInt hr]; rfl) hbytes hcells hslots d (fun q cA H1 hK1 hP1 hD1 hS1 => ?_)
  obtain ⟨ad', h1, h2⟩ := adx ad shs.length q
  rw [wl_ad (ad' := ad') h1 ho, hcel ad' cA hK1, ← h2, wl_push, hsh] at hP1 hD1
  exact K ad' q h1 h2 H1 locs ls hv hP1 hD1 hS1
theorem cA_eq {tys : List (ClassId × FieldType)} {cA cB : ClassId} {ty : FieldType} {i : Nat} (hp : (match ty with | .object _ => false | _ => true) = true) (hi : tys[i]? = some (cB, ty)) (h : va_K D cl (tys ++ [(cA, ty)]) s) : cA = cB := by
  have h1 := (h.2 tys.length (cA, ty) (by simp)).2
  have h2 := (h.2 i (cB, ty) (by rw [List.getElem?_append_left (List.getElem?_eq_some_iff.mp hi).1]; exact hi)).2
  cases ty with
  | object C => cases hp
  | _ => exact Option.some.inj (Eq.trans (Eq.symm h1) h2)
theorem n_new (X : Cx p s m args c cc nL own Ts D cl ca) (hA : ∀ q, s.heap.size ≤ q → A q) {C : String} {T : u_T} {N ci index : Nat} {fl : List (Nat × Nat)} (hin : ∀ w ∈ u_ws C T N, w ∈ Ts) (ty : Nat → FieldType) (hty : ∀ k, k < N → parseFieldDescriptor (T k).2.2.1 = some (ty k)) (w1 : Cond.classLink own index C ∈ Ts) (w2 : Cond.instantiable C N ∈ Ts) (w3 : Cond.initialized C ∈ Ts) (hc : cl[ci]? = some (C, T, N))
    (hfs : ∀ (ad' : Nat → Nat) (j : Nat), j < N → defaultValue (ty j) = vp_V (fds ad' σ shs.length 0 fl) j) (hcells : cells + 1 ≤ R.cells) (hslots : slots + N ≤ R.slots) (hsh : shs ++ [(0, ci, fl)] = shs') (ho : refsOK shs = true) (hno : fl.all (fun d => d.1 != 2) = true) (d : decode cc pc = .ok (.new index, 3))
    (K : ∀ (ad' : Nat → Nat) (q : Nat), (∀ k, k < shs.length → ad' k = ad k) → ad' shs.length = q → GN p l e R s m args below meth c Q nL D cl ca A ad' shs' σ (pc + 3) lv (.ref q :: st) (cells + 1) (slots + N)) : GN p l e R s m args below meth c Q nL D cl ca A ad shs σ pc lv st cells slots := by
  intro H locs ls hv hP hD hS
  refine va_new (fs := fds ad σ shs.length 0 fl) X.1 X.2.1 X.2.2.2.2.1 hin ty hty X.2.2.2.1 (X.2.2.2.2.1 _ w1) (X.2.2.2.2.1 _ w2) (X.2.2.2.2.1 _ w3) X.2.2.2.2.2 hP hD hS hA hc (fun j hj => hfs ad j hj) hcells hslots d (fun q H1 hP1 hD1 hS1 => ?_)
  obtain ⟨ad', h1, h2⟩ := adx ad shs.length q
  have hf : fds ad σ shs.length 0 fl = fds ad' σ shs.length 0 fl := fds_ad (n := 0) (fun z hz => absurd hz (Nat.not_lt_zero z)) fl 0 (by
    rw [List.all_eq_true] at hno ⊢
    intro x hx
    rw [hno x hx, Bool.true_or])
  rw [wl_ad (ad' := ad') h1 ho, hf, ← h2] at hP1 hD1
  have he : wl ca ad' shs σ ++ [(ad' shs.length, (.inr (ci, fds ad' σ shs.length 0 fl) : va_E))] = wl ca ad' shs' σ := by rw [← hsh]; exact wl_push (sh := (0, ci, fl))
  rw [he] at hP1 hD1
  exact K ad' q h1 h2 H1 locs ls hv hP1 hD1 hS1
theorem n_putR (X : Cx p s m args c cc nL own Ts D cl ca) {C : String} {T : u_T} {N ci k idx z a b : Nat} {fl : List (Nat × Nat)} (hin : ∀ w ∈ u_ws C T N, w ∈ Ts) (hs : shs[k]? = some (0, ci, fl)) (hc : cl[ci]? = some (C, T, N)) (j : Nat) (hj : j < N) (ty0 : Nat → FieldType) (hty : ∀ k, k < N → parseFieldDescriptor (T k).2.2.1 = some (ty0 k)) (hnm : ∀ a, a < N → ∀ b, b < N → a ≠ b → (T a).2.1 ≠ (T b).2.1) (hfin : (T j).2.2.2 = true) (hin2 : meth.name = "<init>") (hdecl : (T j).1 = own) (hw : Cond.fieldLink own idx (T j).1 (T j).2.1 (T j).2.2.1 ∈ Ts) {ty : FieldType} (hdt : parseFieldDescriptor (T j).2.2.1 = some ty) (hn0 : narrow ty (.ref b) = .ref b) (hft : fits ty (.ref b) = true) (hlt : j < fl.length) (ha : ad k = a) (hb : ad z = b) (hsh : shs.set k (0, ci, fl.set j (2, z)) = shs') (d : decode cc pc = .ok (.putfield idx, 3))
    (K : GN p l e R s m args below meth c Q nL D cl ca A ad shs' σ (pc + 3) lv st cells slots) : GN p l e R s m args below meth c Q nL D cl ca A ad shs σ pc lv (.ref b :: .ref a :: st) cells slots := by
  intro H locs ls hv hP hD hS
  subst ha
  refine va_putF (ty := ty) X.1 X.2.1 X.2.2.2.2.1 hin ty0 hty hnm X.2.2.2.1 X.2.2.2.2.2 hP hD hS k (wl_get hs) hc j hj (X.2.2.2.2.1 _ hw) (fun _ h9 => h9) hfin hin2 hdecl hdt hn0 hft (by rw [fds_len]; exact hlt) d (fun H1 locs1 hP1 hD1 hS1 => ?_)
  have he : (wl ca ad shs σ).set k (ad k, (.inr (ci, (fds ad σ k 0 fl).set j (.ref b)) : va_E)) = wl ca ad shs' σ := by
    rw [← hb, fds_setR hlt, ← hsh]
    exact wl_setsh (sh' := (0, ci, fl.set j (2, z))) (List.getElem?_eq_some_iff.mp hs).1
  rw [he] at hP1 hD1
  exact K H1 locs1 ls hv hP1 hD1 hS1
theorem n_putI (X : Cx p s m args c cc nL own Ts D cl ca) {C : String} {T : u_T} {N ci k idx z a : Nat} {fl : List (Nat × Nat)} (hin : ∀ w ∈ u_ws C T N, w ∈ Ts) (hs : shs[k]? = some (0, ci, fl)) (hc : cl[ci]? = some (C, T, N)) (j : Nat) (hj : j < N) (ty0 : Nat → FieldType) (hty : ∀ k, k < N → parseFieldDescriptor (T k).2.2.1 = some (ty0 k)) (hnm : ∀ a, a < N → ∀ b, b < N → a ≠ b → (T a).2.1 ≠ (T b).2.1) (hfin : (T j).2.2.2 = false) (hw : Cond.fieldLink own idx (T j).1 (T j).2.1 (T j).2.2.1 ∈ Ts) {ty : FieldType} {v : Int} (hdt : parseFieldDescriptor (T j).2.2.1 = some ty) (hn0 : narrow ty (.int (oi v)) = .int (oi v)) (hft : fits ty (.int (oi v)) = true) (hd : fl[j]? = some (0, z)) (ha : ad k = a) (d : decode cc pc = .ok (.putfield idx, 3))
    (K : GN p l e R s m args below meth c Q nL D cl ca A ad shs (stI σ k j v) (pc + 3) lv st cells slots) : GN p l e R s m args below meth c Q nL D cl ca A ad shs σ pc lv (.int (oi v) :: .ref a :: st) cells slots := by
  intro H locs ls hv hP hD hS
  subst ha
  refine va_put (ty := ty) X.1 X.2.1 X.2.2.2.2.1 hin ty0 hty hnm X.2.2.2.1 X.2.2.2.2.2 hP hD hS k (wl_get hs) hc j hj (X.2.2.2.2.1 _ hw) (fun _ h9 => h9) hfin hdt hn0 hft (by rw [fds_len]; exact (List.getElem?_eq_some_iff.mp hd).1) d (fun H1 locs1 hP1 hD1 hS1 => ?_)
  rw [wl_stI_fld hs hd] at hP1 hD1
  exact K H1 locs1 ls hv hP1 hD1 hS1
theorem n_putL (X : Cx p s m args c cc nL own Ts D cl ca) {C : String} {T : u_T} {N ci k idx z a : Nat} {fl : List (Nat × Nat)} (hin : ∀ w ∈ u_ws C T N, w ∈ Ts) (hs : shs[k]? = some (0, ci, fl)) (hc : cl[ci]? = some (C, T, N)) (j : Nat) (hj : j < N) (ty0 : Nat → FieldType) (hty : ∀ k, k < N → parseFieldDescriptor (T k).2.2.1 = some (ty0 k)) (hnm : ∀ a, a < N → ∀ b, b < N → a ≠ b → (T a).2.1 ≠ (T b).2.1) (hfin : (T j).2.2.2 = false) (hw : Cond.fieldLink own idx (T j).1 (T j).2.1 (T j).2.2.1 ∈ Ts) {v : Int64} (hdt : parseFieldDescriptor (T j).2.2.1 = some .long) (hd : fl[j]? = some (1, z)) (ha : ad k = a) (d : decode cc pc = .ok (.putfield idx, 3))
    (K : GN p l e R s m args below meth c Q nL D cl ca A ad shs (stL σ k j v) (pc + 3) lv st cells slots) : GN p l e R s m args below meth c Q nL D cl ca A ad shs σ pc lv (.long v :: .ref a :: st) cells slots := by
  intro H locs ls hv hP hD hS
  subst ha
  refine va_put (ty := .long) X.1 X.2.1 X.2.2.2.2.1 hin ty0 hty hnm X.2.2.2.1 X.2.2.2.2.2 hP hD hS k (wl_get hs) hc j hj (X.2.2.2.2.1 _ hw) (fun _ h9 => h9) hfin hdt rfl rfl (by rw [fds_len]; exact (List.getElem?_eq_some_iff.mp hd).1) d (fun H1 locs1 hP1 hD1 hS1 => ?_)
  rw [wl_stL_fld hs hd] at hP1 hD1
  exact K H1 locs1 ls hv hP1 hD1 hS1
theorem n_getR (X : Cx p s m args c cc nL own Ts D cl ca) {C : String} {T : u_T} {N ci k idx z a b : Nat} {fl : List (Nat × Nat)} (hin : ∀ w ∈ u_ws C T N, w ∈ Ts) (hs : shs[k]? = some (0, ci, fl)) (hc : cl[ci]? = some (C, T, N)) (j : Nat) (hj : j < N) (hd : fl[j]? = some (2, z)) (hw : Cond.fieldLink own idx (T j).1 (T j).2.1 (T j).2.2.1 ∈ Ts) (ha : ad k = a) (hb : ad z = b) (d : decode cc pc = .ok (.getfield idx, 3)) (K : GN p l e R s m args below meth c Q nL D cl ca A ad shs σ (pc + 3) lv (.ref b :: st) cells slots) : GN p l e R s m args below meth c Q nL D cl ca A ad shs σ pc lv (.ref a :: st) cells slots := by
  intro H locs ls hv hP hD hS
  subst ha; subst hb
  exact va_get X.1 X.2.1 X.2.2.2.2.1 hin X.2.2.2.1 X.2.2.2.2.2 hP k (wl_get hs) hc j hj (X.2.2.2.2.1 _ hw) (fun _ h9 => h9) (by show (fds ad σ k 0 fl)[j]? = _; rw [fds_get, hd, Nat.zero_add]; rfl) d (K H locs ls hv hP hD hS)
theorem n_iast (X : Cx p s m args c cc nL own Ts D cl ca) {k n a : Nat} {fl : List (Nat × Nat)} {i v : Int} (hs : shs[k]? = some (1, n, fl)) (hn : n < 2147483648) (hi : 0 ≤ i ∧ i < (n : Int)) (ha : ad k = a) (d : decode cc pc = .ok (.iastore, 1)) (K : GN p l e R s m args below meth c Q nL D cl ca A ad shs (stI σ k i.toNat v) (pc + 1) lv st cells slots) : GN p l e R s m args below meth c Q nL D cl ca A ad shs σ pc lv (.int (oi v) :: .int (oi i) :: .ref a :: st) cells slots := by
  intro H locs ls hv hP hD hS
  subst ha
  obtain ⟨h3, h4⟩ := oi_in hi hn
  refine va_iast (n := n) (f := fun j => oi (σ.1 k j)) X.1 X.2.1 X.2.2.2.2.2 hP hD hS k 0 (wl_get hs) rfl h3 d (fun H1 locs1 hP1 hD1 hS1 => ?_)
  rw [h4, wl_stI_arr hs] at hP1 hD1
  exact K H1 locs1 ls hv hP1 hD1 hS1
end CTOR
