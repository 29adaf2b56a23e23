/-! CONTRACTS over my worlds -/
def Aw (ad : Nat → Nat) (n sz : Nat) : Nat → Prop := fun q => (∃ k, k < n ∧ q = ad k) ∨ sz ≤ q
def NOK (N : State → Prop) : Prop := (∀ u U : State, u.WarmedH U.vm → N u → N U) ∧ ∀ (U : State) (g : JFrame) (mk : MethodId) (a : Array Value), N U → N (U.calling g mk a)
def Wd (D : va_G) (cl : List vw_C) (ca : Nat → ClassId) (ad : Nat → Nat) (shs : List Sh) (N : State → Prop) (σ : Mm) (U : State) : Prop := va_P D cl (wl ca ad shs σ) U.heap ∧ va_K D cl (tysA ca) U ∧ va_D (fun _ => True) (wl ca ad shs σ) ∧ N U
def Bw (D : va_G) (cl : List vw_C) (ca : Nat → ClassId) (ad : Nat → Nat) (shs : List Sh) (sz : Nat) (u : Mm) (t : State) : Prop := va_P D cl (wl ca ad shs u) t.heap ∧ va_D (Aw ad shs.length sz) (wl ca ad shs u)
def PcW (D : va_G) (cl : List vw_C) (ca : Nat → ClassId) (ad : Nat → Nat) (shs : List Sh) (N : State → Prop) (as : List Value) (σ : Mm) (sz : Nat) : Array Value → State → Prop := va_Pc as (fun U => U.heap.size = sz ∧ Wd D cl ca ad shs N σ U)
def QcI (D : va_G) (cl : List vw_C) (ca : Nat → ClassId) (ad : Nat → Nat) (shs : List Sh) (sz : Nat) (r : Int × Mm) : Array Value → State → Outcome → State → Prop := va_Qi (fun (v : Int32) (u : Mm) => v = oi r.1 ∧ u = r.2 ∧ inR r.1 ∧ Rg r.2) (Bw D cl ca ad shs sz) (Aw ad shs.length sz)
def QcL (D : va_G) (cl : List vw_C) (ca : Nat → ClassId) (ad : Nat → Nat) (shs : List Sh) (sz : Nat) (r : Int64 × Mm) : Array Value → State → Outcome → State → Prop := va_Ql (fun (v : Int64) (u : Mm) => v = r.1 ∧ u = r.2 ∧ Rg r.2) (Bw D cl ca ad shs sz) (Aw ad shs.length sz)
def QcV (D : va_G) (cl : List vw_C) (ca : Nat → ClassId) (ad : Nat → Nat) (shs : List Sh) (sz : Nat) (r : Mm) : Array Value → State → Outcome → State → Prop := va_Qv (fun (u : Mm) => u = r ∧ Rg r) (Bw D cl ca ad shs sz) (Aw ad shs.length sz)
theorem wl_addr {ca : Nat → ClassId} {ad : Nat → Nat} {shs : List Sh} {σ : Mm} {k : Nat} {q : Nat × va_E} (h : (wl ca ad shs σ)[k]? = some q) : k < shs.length ∧ q.1 = ad k := by
  have hk : k < shs.length := by
    have := (List.getElem?_eq_some_iff.mp h).1
    rwa [wl_len] at this
  obtain ⟨sh, hsh⟩ : ∃ sh, shs[k]? = some sh := ⟨_, List.getElem?_eq_getElem hk⟩
  rw [wl_get hsh] at h
  cases h
  exact ⟨hk, rfl⟩
theorem wl_D {ca : Nat → ClassId} {ad : Nat → Nat} {shs : List Sh} {σ : Mm} {B : Nat → Prop} {sz : Nat} (h : va_D B (wl ca ad shs σ)) : va_D (Aw ad shs.length sz) (wl ca ad shs σ) :=
  h.weaken (fun k q hk _ => Or.inl ⟨k, wl_addr hk⟩)
theorem wl_A {ca : Nat → ClassId} {ad : Nat → Nat} {shs : List Sh} {σ : Mm} {A : Nat → Prop} (h : va_D A (wl ca ad shs σ)) {k : Nat} (hk : k < shs.length) : A (ad k) :=
  h.2 k _ (wl_get (List.getElem?_eq_getElem hk))

def CtI (l : Launch) (D : va_G) (cl : List vw_C) (ca : Nat → ClassId) (ad : Nat → Nat) (shs : List Sh) (N : State → Prop) (y : MethodName) (ws : List Cond) (rm : Room) (as : List Value) (σ : Mm) (x : Option (Int × Mm)) : Prop :=
  ∀ r, x = some r → Rg σ → ∀ sz, Met l y ws rm (PcW D cl ca ad shs N as σ sz) (QcI D cl ca ad shs sz r) 0 0 (Aw ad shs.length sz)
def CtL (l : Launch) (D : va_G) (cl : List vw_C) (ca : Nat → ClassId) (ad : Nat → Nat) (shs : List Sh) (N : State → Prop) (y : MethodName) (ws : List Cond) (rm : Room) (as : List Value) (σ : Mm) (x : Option (Int64 × Mm)) : Prop :=
  ∀ r, x = some r → Rg σ → ∀ sz, Met l y ws rm (PcW D cl ca ad shs N as σ sz) (QcL D cl ca ad shs sz r) 0 0 (Aw ad shs.length sz)
def CtV (l : Launch) (D : va_G) (cl : List vw_C) (ca : Nat → ClassId) (ad : Nat → Nat) (shs : List Sh) (N : State → Prop) (y : MethodName) (ws : List Cond) (rm : Room) (as : List Value) (σ : Mm) (x : Option (Mm)) : Prop :=
  ∀ r, x = some r → Rg σ → ∀ sz, Met l y ws rm (PcW D cl ca ad shs N as σ sz) (QcV D cl ca ad shs sz r) 0 0 (Aw ad shs.length sz)
section CALLS
variable {p : Program} {l : Launch} {e : Env} {R : Room} {s : State} {m : MethodId} {args : Array Value} {below : List Frame} {meth : Method} {c : Code} {Q : State → Prop} {nL : Nat} {D : va_G} {cl : List vw_C} {ca : Nat → ClassId} {ad : Nat → Nat} {shs : List Sh} {A : Nat → Prop} {ρ : Type} {res : ρ}
variable {cc : ByteArray} {own : String} {Ts : List Cond} {pc : Nat} {lv : List (Nat × Value)} {st : List Value} {σ : Mm} {t t1 t2 : Option ρ} {N : State → Prop}
theorem ct_I {y : MethodName} {ws ws' : List Cond} {rm : Room} {as : List Value} {x : Option (Int × Mm)} {ret : Option FieldType} (own : String) (ho : y.cls = own) (hy : plainName y.cls = true) (hw : ws = Cond.code y cc nL ret :: ws') (hlen : (lg_sl as).length ≤ nL)
    (body : ∀ (p : Program) (e : Env) (s : State) (m : MethodId) (below : List Frame) (meth : Method) (c : Code) (r : Int × Mm), Cx p s m as.toArray c cc nL own ws D cl ca → N s → meth.sig.returnType = ret → meth.locks = false → G p l e rm s m as.toArray below meth c (MQ below (QcI D cl ca ad shs s.heap.size r) as.toArray s 0 0 (Aw ad shs.length s.heap.size)) nL D cl ca ad shs (Aw ad shs.length s.heap.size) r 0 (lv_args 0 as) [] σ x) : CtI l D cl ca ad shs N y ws rm as σ x := by
  intro r hx hR sz
  refine Met.ofW (cc := cc) (maxL := nL) (ret := ret) hy hw ?_
  intro p e s m args below meth c s₁ B hml hv
  obtain ⟨rfl, hsz, hP, hK, hD0, hN⟩ := hv
  subst hsz
  have hl := lv_entry as hlen
  rw [lg_entry_eq]
  exact body p e s m below meth c r ⟨B.exec, B.bytes, hml, by rw [← ho]; exact findClass_of_methodNamed B.named, atoms_spec (ws := ws) B.pre, hK⟩ hN B.returns B.notSynchronized hx hR s.heap [] _ hl hP (wl_D hD0) va_S.rf
theorem ct_L {y : MethodName} {ws ws' : List Cond} {rm : Room} {as : List Value} {x : Option (Int64 × Mm)} {ret : Option FieldType} (own : String) (ho : y.cls = own) (hy : plainName y.cls = true) (hw : ws = Cond.code y cc nL ret :: ws') (hlen : (lg_sl as).length ≤ nL)
    (body : ∀ (p : Program) (e : Env) (s : State) (m : MethodId) (below : List Frame) (meth : Method) (c : Code) (r : Int64 × Mm), Cx p s m as.toArray c cc nL own ws D cl ca → N s → meth.sig.returnType = ret → meth.locks = false → G p l e rm s m as.toArray below meth c (MQ below (QcL D cl ca ad shs s.heap.size r) as.toArray s 0 0 (Aw ad shs.length s.heap.size)) nL D cl ca ad shs (Aw ad shs.length s.heap.size) r 0 (lv_args 0 as) [] σ x) : CtL l D cl ca ad shs N y ws rm as σ x := by
  intro r hx hR sz
  refine Met.ofW (cc := cc) (maxL := nL) (ret := ret) hy hw ?_
  intro p e s m args below meth c s₁ B hml hv
  obtain ⟨rfl, hsz, hP, hK, hD0, hN⟩ := hv
  subst hsz
  have hl := lv_entry as hlen
  rw [lg_entry_eq]
  exact body p e s m below meth c r ⟨B.exec, B.bytes, hml, by rw [← ho]; exact findClass_of_methodNamed B.named, atoms_spec (ws := ws) B.pre, hK⟩ hN B.returns B.notSynchronized hx hR s.heap [] _ hl hP (wl_D hD0) va_S.rf
theorem ct_V {y : MethodName} {ws ws' : List Cond} {rm : Room} {as : List Value} {x : Option (Mm)} {ret : Option FieldType} (own : String) (ho : y.cls = own) (hy : plainName y.cls = true) (hw : ws = Cond.code y cc nL ret :: ws') (hlen : (lg_sl as).length ≤ nL)
    (body : ∀ (p : Program) (e : Env) (s : State) (m : MethodId) (below : List Frame) (meth : Method) (c : Code) (r : Mm), Cx p s m as.toArray c cc nL own ws D cl ca → N s → meth.sig.returnType = ret → meth.locks = false → G p l e rm s m as.toArray below meth c (MQ below (QcV D cl ca ad shs s.heap.size r) as.toArray s 0 0 (Aw ad shs.length s.heap.size)) nL D cl ca ad shs (Aw ad shs.length s.heap.size) r 0 (lv_args 0 as) [] σ x) : CtV l D cl ca ad shs N y ws rm as σ x := by
  intro r hx hR sz
  refine Met.ofW (cc := cc) (maxL := nL) (ret := ret) hy hw ?_
  intro p e s m args below meth c s₁ B hml hv
  obtain ⟨rfl, hsz, hP, hK, hD0, hN⟩ := hv
  subst hsz
  have hl := lv_entry as hlen
  rw [lg_entry_eq]
  exact body p e s m below meth c r ⟨B.exec, B.bytes, hml, by rw [← ho]; exact findClass_of_methodNamed B.named, atoms_spec (ws := ws) B.pre, hK⟩ hN B.returns B.notSynchronized hx hR s.heap [] _ hl hP (wl_D hD0) va_S.rf
theorem ct_Ip {y : MethodName} {ws ws' : List Cond} {rm : Room} {as : List Value} {x : Option Int} {ret : Option FieldType} (own : String) (ho : y.cls = own) (hy : plainName y.cls = true) (hw : ws = Cond.code y cc nL ret :: ws') (hlen : (lg_sl as).length ≤ nL)
    (body : ∀ (p : Program) (e : Env) (s : State) (m : MethodId) (below : List Frame) (meth : Method) (c : Code) (r : Int), Cx p s m as.toArray c cc nL own ws D cl ca → N s → meth.sig.returnType = ret → meth.locks = false → G p l e rm s m as.toArray below meth c (MQ below (QcI D cl ca ad shs s.heap.size (r, σ)) as.toArray s 0 0 (Aw ad shs.length s.heap.size)) nL D cl ca ad shs (Aw ad shs.length s.heap.size) r 0 (lv_args 0 as) [] σ x) : CtI l D cl ca ad shs N y ws rm as σ (x.map (fun r => (r, σ))) := by
  intro r hx hR sz
  obtain ⟨r0, hx0, rfl⟩ := Option.map_eq_some_iff.mp hx
  refine Met.ofW (cc := cc) (maxL := nL) (ret := ret) hy hw ?_
  intro p e s m args below meth c s₁ B hml hv
  obtain ⟨rfl, hsz, hP, hK, hD0, hN⟩ := hv
  subst hsz
  have hl := lv_entry as hlen
  rw [lg_entry_eq]
  exact body p e s m below meth c r0 ⟨B.exec, B.bytes, hml, by rw [← ho]; exact findClass_of_methodNamed B.named, atoms_spec (ws := ws) B.pre, hK⟩ hN B.returns B.notSynchronized hx0 hR s.heap [] _ hl hP (wl_D hD0) va_S.rf
theorem ct_Lp {y : MethodName} {ws ws' : List Cond} {rm : Room} {as : List Value} {x : Option Int64} {ret : Option FieldType} (own : String) (ho : y.cls = own) (hy : plainName y.cls = true) (hw : ws = Cond.code y cc nL ret :: ws') (hlen : (lg_sl as).length ≤ nL)
    (body : ∀ (p : Program) (e : Env) (s : State) (m : MethodId) (below : List Frame) (meth : Method) (c : Code) (r : Int64), Cx p s m as.toArray c cc nL own ws D cl ca → N s → meth.sig.returnType = ret → meth.locks = false → G p l e rm s m as.toArray below meth c (MQ below (QcL D cl ca ad shs s.heap.size (r, σ)) as.toArray s 0 0 (Aw ad shs.length s.heap.size)) nL D cl ca ad shs (Aw ad shs.length s.heap.size) r 0 (lv_args 0 as) [] σ x) : CtL l D cl ca ad shs N y ws rm as σ (x.map (fun r => (r, σ))) := by
  intro r hx hR sz
  obtain ⟨r0, hx0, rfl⟩ := Option.map_eq_some_iff.mp hx
  refine Met.ofW (cc := cc) (maxL := nL) (ret := ret) hy hw ?_
  intro p e s m args below meth c s₁ B hml hv
  obtain ⟨rfl, hsz, hP, hK, hD0, hN⟩ := hv
  subst hsz
  have hl := lv_entry as hlen
  rw [lg_entry_eq]
  exact body p e s m below meth c r0 ⟨B.exec, B.bytes, hml, by rw [← ho]; exact findClass_of_methodNamed B.named, atoms_spec (ws := ws) B.pre, hK⟩ hN B.returns B.notSynchronized hx0 hR s.heap [] _ hl hP (wl_D hD0) va_S.rf
theorem inR_z {r : Int} (h : r = 0 ∨ r = 1) : inR r := by rcases h with rfl | rfl <;> decide
theorem q_iret (X : Cx p s m args c cc nL own Ts D cl ca) {r : Int} (hx : inR r) {res : Int × Mm} (hr : meth.sig.returnType = some .int) (hlk : meth.locks = false) (d : decode cc pc = .ok (.ireturn, 1)) : G p l e R s m args below meth c (MQ below (QcI D cl ca ad shs s.heap.size res) args s 0 0 (Aw ad shs.length s.heap.size)) nL D cl ca ad shs (Aw ad shs.length s.heap.size) res pc lv [.int (oi r)] σ (some (r, σ)) := by
  intro h hR H locs ls hv hP hD hS
  cases h
  exact W.iret X.1 X.2.1 hr (fun t ht hW => ⟨⟨oi r, σ, rfl, ⟨rfl, rfl, hx, hR⟩, by rw [ht]; exact hP, hD⟩, hS.F ht⟩) hS.2.2 d (hlocks := hlk)
theorem q_iretp (X : Cx p s m args c cc nL own Ts D cl ca) {r : Int} (hx : inR r) {res : Int} (hr : meth.sig.returnType = some .int) (hlk : meth.locks = false) (d : decode cc pc = .ok (.ireturn, 1)) : G p l e R s m args below meth c (MQ below (QcI D cl ca ad shs s.heap.size (res, σ)) args s 0 0 (Aw ad shs.length s.heap.size)) nL D cl ca ad shs (Aw ad shs.length s.heap.size) res pc lv [.int (oi r)] σ (some r) := by
  intro h hR H locs ls hv hP hD hS
  cases h
  exact W.iret X.1 X.2.1 hr (fun t ht hW => ⟨⟨oi r, σ, rfl, ⟨rfl, rfl, hx, hR⟩, by rw [ht]; exact hP, hD⟩, hS.F ht⟩) hS.2.2 d (hlocks := hlk)
theorem q_zret (X : Cx p s m args c cc nL own Ts D cl ca) {r : Int} (hx : r = 0 ∨ r = 1) {res : Int × Mm} (hr : meth.sig.returnType = some .boolean) (hlk : meth.locks = false) (d : decode cc pc = .ok (.ireturn, 1)) : G p l e R s m args below meth c (MQ below (QcI D cl ca ad shs s.heap.size res) args s 0 0 (Aw ad shs.length s.heap.size)) nL D cl ca ad shs (Aw ad shs.length s.heap.size) res pc lv [.int (oi r)] σ (some (r, σ)) := by
  intro h hR H locs ls hv hP hD hS
  cases h
  exact W.zret X.1 X.2.1 hr (nar_z hx).1 (fun t ht hW => ⟨⟨oi r, σ, rfl, ⟨rfl, rfl, inR_z hx, hR⟩, by rw [ht]; exact hP, hD⟩, hS.F ht⟩) hS.2.2 d (hlocks := hlk)
theorem q_zretp (X : Cx p s m args c cc nL own Ts D cl ca) {r : Int} (hx : r = 0 ∨ r = 1) {res : Int} (hr : meth.sig.returnType = some .boolean) (hlk : meth.locks = false) (d : decode cc pc = .ok (.ireturn, 1)) : G p l e R s m args below meth c (MQ below (QcI D cl ca ad shs s.heap.size (res, σ)) args s 0 0 (Aw ad shs.length s.heap.size)) nL D cl ca ad shs (Aw ad shs.length s.heap.size) res pc lv [.int (oi r)] σ (some r) := by
  intro h hR H locs ls hv hP hD hS
  cases h
  exact W.zret X.1 X.2.1 hr (nar_z hx).1 (fun t ht hW => ⟨⟨oi r, σ, rfl, ⟨rfl, rfl, inR_z hx, hR⟩, by rw [ht]; exact hP, hD⟩, hS.F ht⟩) hS.2.2 d (hlocks := hlk)
theorem q_lret (X : Cx p s m args c cc nL own Ts D cl ca) {r : Int64} {res : Int64 × Mm} (hr : meth.sig.returnType = some .long) (hlk : meth.locks = false) (d : decode cc pc = .ok (.lreturn, 1)) : G p l e R s m args below meth c (MQ below (QcL D cl ca ad shs s.heap.size res) args s 0 0 (Aw ad shs.length s.heap.size)) nL D cl ca ad shs (Aw ad shs.length s.heap.size) res pc lv [.long r] σ (some (r, σ)) := by
  intro h hR H locs ls hv hP hD hS
  cases h
  exact W.lret X.1 X.2.1 hr (fun t ht hW => ⟨⟨r, σ, rfl, ⟨rfl, rfl, hR⟩, by rw [ht]; exact hP, hD⟩, hS.F ht⟩) hS.2.2 d (hlocks := hlk)
theorem q_lretp (X : Cx p s m args c cc nL own Ts D cl ca) {r : Int64} {res : Int64} (hr : meth.sig.returnType = some .long) (hlk : meth.locks = false) (d : decode cc pc = .ok (.lreturn, 1)) : G p l e R s m args below meth c (MQ below (QcL D cl ca ad shs s.heap.size (res, σ)) args s 0 0 (Aw ad shs.length s.heap.size)) nL D cl ca ad shs (Aw ad shs.length s.heap.size) res pc lv [.long r] σ (some r) := by
  intro h hR H locs ls hv hP hD hS
  cases h
  exact W.lret X.1 X.2.1 hr (fun t ht hW => ⟨⟨r, σ, rfl, ⟨rfl, rfl, hR⟩, by rw [ht]; exact hP, hD⟩, hS.F ht⟩) hS.2.2 d (hlocks := hlk)
theorem q_vret (X : Cx p s m args c cc nL own Ts D cl ca)  {res : Mm} (hr : meth.sig.returnType = none) (hlk : meth.locks = false) (d : decode cc pc = .ok (.return_, 1)) : G p l e R s m args below meth c (MQ below (QcV D cl ca ad shs s.heap.size res) args s 0 0 (Aw ad shs.length s.heap.size)) nL D cl ca ad shs (Aw ad shs.length s.heap.size) res pc lv [] σ (some σ) := by
  intro h hR H locs ls hv hP hD hS
  cases h
  exact W.vret X.1 X.2.1 hr (fun t ht hW => ⟨⟨σ, rfl, ⟨rfl, hR⟩, by rw [ht]; exact hP, hD⟩, hS.F ht⟩) hS.2.2 d (hlocks := hlk)
theorem q_nm {kf : Mm → Option ρ} (K : ∀ σ1 : Mm, G p l e R s m args below meth c Q nL D cl ca ad shs A res pc lv st σ1 (kf σ1)) : G p l e R s m args below meth c Q nL D cl ca ad shs A res pc lv st σ ((some σ).bind kf) := K σ
def Rn (p : Program) (l : Launch) (e : Env) (R : Room) (s : State) (m : MethodId) (args : Array Value) (below : List Frame) (meth : Method) (c : Code) (nL : Nat) (D : va_G) (cl : List vw_C) (ca : Nat → ClassId) (ad : Nat → Nat) (shs : List Sh) (y : MethodName) (ws : List Cond) (rm : Room) (as st st0 : List Value) (pc : Nat) : Prop :=
  ∀ (σ : Mm) (Pc : Array Value → State → Prop) (Qc : Array Value → State → Outcome → State → Prop) (free : Addr → Prop) (H : Heap) (locs : List Loc) (ls : Array Slot), ls.size = nL → va_P D cl (wl ca ad shs σ) H → Met l y ws rm Pc Qc 0 0 free → FrameBlind Pc → (∀ U : State, U.heap = H → s.WarmedH U.vm → Pc as.toArray U) → va_Run p l e R s m args below meth c H locs 0 0 0 0 (F0 m pc ls st0) st (Qc as.toArray) free
theorem rn_V (X : Cx p s m args c cc nL own Ts D cl ca) {y : MethodName} {bytes : ByteArray} {maxL n idx kk ci nT : Nat} {ret : Option FieldType} {ws : List Cond} {rm : Room} {C : String} {T : u_T} {fl : List (Nat × Nat)} {as st0 : List Value} (cw : CallW R s args own C idx y bytes maxL ret ws rm 0 0 n) (hs : shs[kk]? = some (0, ci, fl)) (hcl : cl[ci]? = some (C, T, nT)) (hn : as.length = n) (hst : st0 = as.reverse ++ .ref (ad kk) :: st) (hcat : (st.map fun v => v.category).sum ≤ 8) (d : decode cc pc = .ok (.invokevirtual idx, 3)) : Rn p l e R s m args below meth c nL D cl ca ad shs y ws rm (.ref (ad kk) :: as) st st0 pc :=
  fun _ _ _ _ _ _ _ hz hP hM hB hU => va_runV (As := as) (rest := st) ⟨X.1, X.2.1, X.2.2.1, X.2.2.2.1, X.2.2.2.2.1⟩ hM cw ⟨hB, va_recv X.2.2.2.2.2 hP hcl (wl_get hs), hU⟩ rfl hn hz hst (lv_room hcat) d ⟨Nat.zero_le _, Nat.zero_le _⟩
theorem rn_S (X : Cx p s m args c cc nL own Ts D cl ca) {y : MethodName} {bytes : ByteArray} {maxL n idx : Nat} {ret : Option FieldType} {ws : List Cond} {rm : Room} {as st0 : List Value} (cw : CallB R s args own idx y bytes maxL ret ws rm 0 0 n ∧ (Cond.static y).before args s = true) (hn : as.length = n) (hst : st0 = as.reverse ++ st) (hcat : (st.map fun v => v.category).sum ≤ 8) (d : decode cc pc = .ok (.invokestatic idx, 3)) : Rn p l e R s m args below meth c nL D cl ca ad shs y ws rm as st st0 pc :=
  fun _ _ _ _ _ _ _ hz _ hM hB hU => va_runS (As := as) (rest := st) ⟨X.1, X.2.1, X.2.2.1, X.2.2.2.1, X.2.2.2.2.1⟩ hM cw ⟨hB, hU⟩ rfl hn hz hst (lv_room hcat) d ⟨Nat.zero_le _, Nat.zero_le _⟩
theorem rn_SN (X : Cx p s m args c cc nL own Ts D cl ca) {y : MethodName} {bytes : ByteArray} {maxL n idx : Nat} {ret : Option FieldType} {ws : List Cond} {rm : Room} {host : String} {as st0 : List Value} (cw : va_CN R s args own idx y host bytes maxL ret ws rm 0 0 n ∧ (Cond.static y).before args s = true ∧ True) (hn : as.length = n) (hst : st0 = as.reverse ++ st) (hcat : (st.map fun v => v.category).sum ≤ 8) (d : decode cc pc = .ok (.invokestatic idx, 3)) : Rn p l e R s m args below meth c nL D cl ca ad shs y ws rm as st st0 pc :=
  fun _ _ _ _ _ _ _ hz _ hM hB hU => va_runSN (As := as) (rest := st) ⟨X.1, X.2.1, X.2.2.1, X.2.2.2.1, X.2.2.2.2.1⟩ hM cw ⟨hB, hU⟩ rfl hn hz hst (lv_room hcat) d ⟨Nat.zero_le _, Nat.zero_le _⟩
theorem pc_blind (NK : NOK N) {as : List Value} {sz : Nat} : FrameBlind (PcW D cl ca ad shs N as σ sz) := by
  intro a U g mk q
  obtain ⟨q0, q1, qP, qK, qD, qN⟩ := q
  exact ⟨q0, q1, qP, va_K.moved (u := U) (U := U.calling g mk a) (Vm.Alike.refl U.vm) qK, qD, NK.2 U g mk a qN⟩
theorem pc_pre (X : Cx p s m args c cc nL own Ts D cl ca) (NK : NOK N) (hN : N s) {as : List Value} {H : Heap} (hP : va_P D cl (wl ca ad shs σ) H) (hD : va_D A (wl ca ad shs σ)) : ∀ U : State, U.heap = H → s.WarmedH U.vm → PcW D cl ca ad shs N as σ H.size as.toArray U :=
  fun U hU hW => ⟨rfl, by rw [hU], by rw [hU]; exact hP, va_K.moved hW.alike X.2.2.2.2.2, hD.weaken (fun _ _ _ _ => trivial), NK.1 s U hW hN⟩
theorem Aw_in (hA : ∀ q, s.heap.size ≤ q → A q) {H : Heap} {locs : List Loc} (hD : va_D A (wl ca ad shs σ)) (hS : va_S A s.heap H locs) : ∀ q, Aw ad shs.length H.size q → A q := by
  intro q h
  rcases h with ⟨k, hk, rfl⟩ | h
  · exact wl_A hD hk
  · exact hA q (Nat.le_trans hS.1 h)
theorem Aw_new {n sz : Nat} : ∀ q, sz ≤ q → Aw ad n sz q := fun _ h => Or.inr h
theorem q_callI (X : Cx p s m args c cc nL own Ts D cl ca) (NK : NOK N) (hN : N s) (hA : ∀ q, s.heap.size ≤ q → A q) {y : MethodName} {ws : List Cond} {rm : Room} {as st0 : List Value} {x : Option (Int × Mm)} {kf : Int × Mm → Option ρ} (hc : CtI l D cl ca ad shs N y ws rm as σ x) (hr : Rn p l e R s m args below meth c nL D cl ca ad shs y ws rm as st st0 pc) (K : ∀ r, x = some r → inR r.1 → G p l e R s m args below meth c Q nL D cl ca ad shs A res (pc + 3) lv (.int (oi r.1) :: st) r.2 (kf r)) : G p l e R s m args below meth c Q nL D cl ca ad shs A res pc lv st0 σ (x.bind kf) := by
  intro h hR H locs ls hv hP hD hS
  obtain ⟨r, hx, hk⟩ := Option.bind_eq_some_iff.mp h
  have hF := Aw_in hA hD hS
  refine va_calli (hr σ _ _ _ H locs ls hv.1 hP (hc r hx hR H.size) (pc_blind NK) (pc_pre X NK hN hP hD)) hS (fun q _ h => hF q h) hF (fun v u t H1 locs1 ht hvm hp hB hz1 hk1 hS1 => ?_)
  obtain ⟨rfl, rfl, hr1, hr2⟩ := hp
  obtain ⟨hP1, hD1⟩ := hB
  rw [ht] at hP1
  exact K r hx hr1 hk hr2 H1 locs1 ls hv hP1 (hD1.weaken (fun _ _ _ h => hF _ h)) hS1
theorem q_callL (X : Cx p s m args c cc nL own Ts D cl ca) (NK : NOK N) (hN : N s) (hA : ∀ q, s.heap.size ≤ q → A q) {y : MethodName} {ws : List Cond} {rm : Room} {as st0 : List Value} {x : Option (Int64 × Mm)} {kf : Int64 × Mm → Option ρ} (hc : CtL l D cl ca ad shs N y ws rm as σ x) (hr : Rn p l e R s m args below meth c nL D cl ca ad shs y ws rm as st st0 pc) (K : ∀ r, x = some r → G p l e R s m args below meth c Q nL D cl ca ad shs A res (pc + 3) lv (.long r.1 :: st) r.2 (kf r)) : G p l e R s m args below meth c Q nL D cl ca ad shs A res pc lv st0 σ (x.bind kf) := by
  intro h hR H locs ls hv hP hD hS
  obtain ⟨r, hx, hk⟩ := Option.bind_eq_some_iff.mp h
  have hF := Aw_in hA hD hS
  refine va_calll (hr σ _ _ _ H locs ls hv.1 hP (hc r hx hR H.size) (pc_blind NK) (pc_pre X NK hN hP hD)) hS (fun q _ h => hF q h) hF (fun v u t H1 locs1 ht hvm hp hB hz1 hk1 hS1 => ?_)
  obtain ⟨rfl, rfl, hr2⟩ := hp
  obtain ⟨hP1, hD1⟩ := hB
  rw [ht] at hP1
  exact K r hx hk hr2 H1 locs1 ls hv hP1 (hD1.weaken (fun _ _ _ h => hF _ h)) hS1
theorem q_callV (X : Cx p s m args c cc nL own Ts D cl ca) (NK : NOK N) (hN : N s) (hA : ∀ q, s.heap.size ≤ q → A q) {y : MethodName} {ws : List Cond} {rm : Room} {as st0 : List Value} {x : Option Mm} {kf : Mm → Option ρ} (hc : CtV l D cl ca ad shs N y ws rm as σ x) (hr : Rn p l e R s m args below meth c nL D cl ca ad shs y ws rm as st st0 pc) (K : ∀ r, x = some r → G p l e R s m args below meth c Q nL D cl ca ad shs A res (pc + 3) lv st r (kf r)) : G p l e R s m args below meth c Q nL D cl ca ad shs A res pc lv st0 σ (x.bind kf) := by
  intro h hR H locs ls hv hP hD hS
  obtain ⟨r, hx, hk⟩ := Option.bind_eq_some_iff.mp h
  have hF := Aw_in hA hD hS
  refine va_callv (hr σ _ _ _ H locs ls hv.1 hP (hc r hx hR H.size) (pc_blind NK) (pc_pre X NK hN hP hD)) hS (fun q _ h => hF q h) hF (fun u t H1 locs1 ht hvm hp hB hz1 hk1 hS1 => ?_)
  obtain ⟨rfl, hr2⟩ := hp
  obtain ⟨hP1, hD1⟩ := hB
  rw [ht] at hP1
  exact K _ hx hk hr2 H1 locs1 ls hv hP1 (hD1.weaken (fun _ _ _ h => hF _ h)) hS1
theorem q_callIp (X : Cx p s m args c cc nL own Ts D cl ca) (NK : NOK N) (hN : N s) (hA : ∀ q, s.heap.size ≤ q → A q) {y : MethodName} {ws : List Cond} {rm : Room} {as st0 : List Value} {x : Option Int} {kf : Int → Option ρ} (hc : CtI l D cl ca ad shs N y ws rm as σ (x.map (fun r => (r, σ)))) (hr : Rn p l e R s m args below meth c nL D cl ca ad shs y ws rm as st st0 pc) (K : ∀ r, x = some r → inR r → G p l e R s m args below meth c Q nL D cl ca ad shs A res (pc + 3) lv (.int (oi r) :: st) σ (kf r)) : G p l e R s m args below meth c Q nL D cl ca ad shs A res pc lv st0 σ (x.bind kf) := by
  have h := q_callI (x := x.map (fun r => (r, σ))) (kf := fun r => kf r.1) X NK hN hA hc hr (fun r hx hr1 => by
    obtain ⟨r0, hx0, rfl⟩ := Option.map_eq_some_iff.mp hx
    exact K r0 hx0 hr1)
  rwa [Option.bind_map] at h
theorem q_callLp (X : Cx p s m args c cc nL own Ts D cl ca) (NK : NOK N) (hN : N s) (hA : ∀ q, s.heap.size ≤ q → A q) {y : MethodName} {ws : List Cond} {rm : Room} {as st0 : List Value} {x : Option Int64} {kf : Int64 → Option ρ} (hc : CtL l D cl ca ad shs N y ws rm as σ (x.map (fun r => (r, σ)))) (hr : Rn p l e R s m args below meth c nL D cl ca ad shs y ws rm as st st0 pc) (K : ∀ r, x = some r → G p l e R s m args below meth c Q nL D cl ca ad shs A res (pc + 3) lv (.long r :: st) σ (kf r)) : G p l e R s m args below meth c Q nL D cl ca ad shs A res pc lv st0 σ (x.bind kf) := by
  have h := q_callL (x := x.map (fun r => (r, σ))) (kf := fun r => kf r.1) X NK hN hA hc hr (fun r hx => by
    obtain ⟨r0, hx0, rfl⟩ := Option.map_eq_some_iff.mp hx
    exact K r0 hx0)
  rwa [Option.bind_map] at h
end CALLS
/-! the words: one list for all methods -/
def tbG : List Cond := lw_tbl.filter goodWord
theorem tbG_mem {w : Cond} (h : w ∈ lw_tbl) (hg : goodWord w = true) : w ∈ tbG := List.mem_filter.mpr ⟨h, hg⟩
theorem tbG_good (c0 : Cond) {ws : List Cond} (h : ∀ w ∈ ws, w ∈ tbG) : GoodIn (c0 :: tbG) ws := fun w hw => ⟨List.mem_cons_of_mem _ (h w hw), good_of_word (List.mem_filter.mp (h w hw)).2⟩
theorem tbG_cons {c1 : Cond} (h : c1 ∈ tbG) : ∀ w ∈ c1 :: tbG, w ∈ tbG := fun w hw => (List.mem_cons.mp hw).elim (fun e => e ▸ h) id
theorem tbG_V {own C : String} {idx : Nat} {y : MethodName} {c1 : Cond} (h1 : Cond.methodLink own idx y ∈ tbG) (h2 : Cond.instanceMethod y ∈ tbG) (h3 : Cond.selects C y y ∈ tbG) (h4 : Cond.initialized C ∈ tbG) (h5 : c1 ∈ tbG) : ∀ w ∈ wsV own idx C y (c1 :: tbG), w ∈ tbG := by
  intro w hw
  simp only [wsV, List.cons_append, List.nil_append, List.mem_cons] at hw
  rcases hw with rfl | rfl | rfl | rfl | rfl | hw
  · exact h1
  · exact h2
  · exact h3
  · exact h4
  · exact h5
  · exact hw
theorem tbG_S {own : String} {idx : Nat} {y : MethodName} {c1 : Cond} (h1 : Cond.methodLink own idx y ∈ tbG) (h2 : Cond.static y ∈ tbG) (h4 : Cond.initialized y.cls ∈ tbG) (h5 : c1 ∈ tbG) : ∀ w ∈ va_wsS own idx y (c1 :: tbG), w ∈ tbG := by
  intro w hw
  simp only [va_wsS, List.cons_append, List.nil_append, List.mem_cons] at hw
  rcases hw with rfl | rfl | rfl | rfl | hw
  · exact h1
  · exact h2
  · exact h4
  · exact h5
  · exact hw
