/-! CONSTRUCTORS: contracts and calls -/
def Zb (σ : Mm) (n : Nat) : Prop := ∀ k, n ≤ k → (∀ j, σ.1 k j = 0) ∧ ∀ j, σ.2 k j = 0
theorem Zb.stI {σ : Mm} {n k j : Nat} {v : Int} (h : Zb σ n) (hk : k < n) : Zb (stI σ k j v) n := fun q hq => ⟨fun i => by
  show (if q = k ∧ i = j then v else σ.1 q i) = 0
  rw [if_neg (by omega)]; exact (h q hq).1 i, (h q hq).2⟩
theorem Zb.stL {σ : Mm} {n k j : Nat} {v : Int64} (h : Zb σ n) (hk : k < n) : Zb (stL σ k j v) n := fun q hq => ⟨(h q hq).1, fun i => by
  show (if q = k ∧ i = j then v else σ.2 q i) = 0
  rw [if_neg (by omega)]; exact (h q hq).2 i⟩
theorem Zb.mono {σ : Mm} {n n' : Nat} (h : Zb σ n) (hn : n ≤ n') : Zb σ n' := fun k hk => h k (Nat.le_trans hn hk)
theorem oi_00 : oi 0 = 0 := by decide
theorem cel_I {ca : Nat → ClassId} {σ : Mm} {n ln : Nat} {D : va_G} {cl : List vw_C} {s : State} (h : Zb σ n) : ∀ (ad' : Nat → Nat) (cA : ClassId), va_K D cl (tysA ca ++ [(cA, .int)]) s → (.inl (cA, ln, .inl (fun _ => 0)) : va_E) = cel ca ad' σ n (1, ln, []) := by
  intro ad' cA hK
  have he : cA = ca 0 := cA_eq (i := 0) rfl rfl hK
  subst he
  have hf : (fun j => oi (σ.1 n j)) = fun _ => (0 : Int32) := by funext j; rw [(h n (Nat.le_refl n)).1 j, oi_00]
  show _ = (Sum.inl (ca 0, ln, .inl (fun j => oi (σ.1 n j))) : va_E)
  rw [hf]
theorem cel_Z {ca : Nat → ClassId} {σ : Mm} {n ln : Nat} {D : va_G} {cl : List vw_C} {s : State} (h : Zb σ n) : ∀ (ad' : Nat → Nat) (cA : ClassId), va_K D cl (tysA ca ++ [(cA, .boolean)]) s → (.inl (cA, ln, .inl (fun _ => 0)) : va_E) = cel ca ad' σ n (3, ln, []) := by
  intro ad' cA hK
  have he : cA = ca 2 := cA_eq (i := 2) rfl rfl hK
  subst he
  have hf : (fun j => oi (σ.1 n j)) = fun _ => (0 : Int32) := by funext j; rw [(h n (Nat.le_refl n)).1 j, oi_00]
  show _ = (Sum.inl (ca 2, ln, .inl (fun j => oi (σ.1 n j))) : va_E)
  rw [hf]
theorem cel_J {ca : Nat → ClassId} {σ : Mm} {n ln : Nat} {D : va_G} {cl : List vw_C} {s : State} (h : Zb σ n) : ∀ (ad' : Nat → Nat) (cA : ClassId), va_K D cl (tysA ca ++ [(cA, .long)]) s → (.inl (cA, ln, .inr (.inl (fun _ => 0))) : va_E) = cel ca ad' σ n (2, ln, []) := by
  intro ad' cA hK
  have he : cA = ca 1 := cA_eq (i := 1) rfl rfl hK
  subst he
  have hf : (fun j => σ.2 n j) = fun _ => (0 : Int64) := by funext j; rw [(h n (Nat.le_refl n)).2 j]
  show _ = (Sum.inl (ca 1, ln, .inr (.inl (fun j => σ.2 n j))) : va_E)
  rw [hf]
/-- a new object's fields -/
theorem new_fs {ad : Nat → Nat} {σ : Mm} {n N : Nat} {fl : List (Nat × Nat)} {ty : Nat → FieldType} (h : Zb σ n) (hN : fl.length = N) (ht : ∀ j, j < N → (fl[j]? = some (0, 0) ∧ defaultValue (ty j) = .int 0) ∨ (fl[j]? = some (1, 0) ∧ defaultValue (ty j) = .long 0) ∨ (fl[j]? = some (3, 0) ∧ defaultValue (ty j) = .null)) : ∀ j, j < N → defaultValue (ty j) = vp_V (fds ad σ n 0 fl) j := by
  intro j hj
  have e : vp_V (fds ad σ n 0 fl) j = (((fl[j]?).map (vfd ad σ n (0 + j))).getD .null) := by
    show (fds ad σ n 0 fl).getD j .null = _
    rw [← fds_get, List.getD_eq_getElem?_getD]
  rw [e]
  rcases ht j hj with ⟨h1, h2⟩ | ⟨h1, h2⟩ | ⟨h1, h2⟩
  · rw [h1, h2]
    show _ = Value.int (oi (σ.1 n (0 + j)))
    rw [(h n (Nat.le_refl n)).1, oi_00]
  · rw [h1, h2]
    show _ = Value.long (σ.2 n (0 + j))
    rw [(h n (Nat.le_refl n)).2]
  · rw [h1, h2]
    rfl
def QcN (D : va_G) (cl : List vw_C) (ca : Nat → ClassId) (ad : Nat → Nat) (n0 : Nat) (shs' : List Sh) (σ' : Mm) (sz : Nat) : Array Value → State → Outcome → State → Prop := va_Qv (fun ad' : Nat → Nat => ∀ k, k < n0 → ad' k = ad k) (fun ad' t => va_P D cl (wl ca ad' shs' σ') t.heap ∧ va_D (Aw ad n0 sz) (wl ca ad' shs' σ')) (Aw ad n0 sz)
def CtN (l : Launch) (D : va_G) (cl : List vw_C) (ca : Nat → ClassId) (N : State → Prop) (y : MethodName) (ws : List Cond) (rm : Room) (as : List Value) (ad : Nat → Nat) (shs : List Sh) (σ : Mm) (shs' : List Sh) (σ' : Mm) (mc ms : Nat) : Prop :=
  ∀ sz, Met l y ws rm (PcW D cl ca ad shs N as σ sz) (QcN D cl ca ad shs.length shs' σ' sz) mc ms (Aw ad shs.length sz)
section CTOR2
variable {p : Program} {l : Launch} {e : Env} {R : Room} {s : State} {m : MethodId} {args : Array Value} {below : List Frame} {meth : Method} {c : Code} {Q : State → Prop} {nL : Nat} {D : va_G} {cl : List vw_C} {ca : Nat → ClassId} {ad : Nat → Nat} {shs shs' : List Sh} {A : Nat → Prop}
variable {cc : ByteArray} {own : String} {Ts : List Cond} {pc : Nat} {lv : List (Nat × Value)} {st : List Value} {σ σ' : Mm} {cells slots mc ms : Nat} {N : State → Prop}
theorem ct_N {y : MethodName} {ws ws' : List Cond} {rm : Room} {as : List Value} (own : String) (ho : y.cls = own) (hy : plainName y.cls = true) (hy1 : y.name = "<init>") (hw : ws = Cond.code y cc nL none :: ws') (hlen : (lg_sl as).length ≤ nL)
    (body : ∀ (p : Program) (e : Env) (s : State) (m : MethodId) (below : List Frame) (meth : Method) (c : Code), Cx p s m as.toArray c cc nL own ws D cl ca → N s → meth.sig.returnType = none → meth.locks = false → meth.name = "<init>" → GN p l e rm s m as.toArray below meth c (MQ below (QcN D cl ca ad shs.length shs' σ' s.heap.size) as.toArray s mc ms (Aw ad shs.length s.heap.size)) nL D cl ca (Aw ad shs.length s.heap.size) ad shs σ 0 (lv_args 0 as) [] 0 0) : CtN l D cl ca N y ws rm as ad shs σ shs' σ' mc ms := by
  intro sz
  refine Met.ofW (cc := cc) (maxL := nL) (ret := none) hy hw ?_
  intro p e s m args below meth c s₁ B hml hv
  obtain ⟨rfl, hsz, hP, hK, hD0, hN⟩ := hv
  subst hsz
  have hl := lv_entry as hlen
  rw [lg_entry_eq]
  exact body p e s m below meth c ⟨B.exec, B.bytes, hml, by rw [← ho]; exact findClass_of_methodNamed B.named, atoms_spec (ws := ws) B.pre, hK⟩ hN B.returns B.notSynchronized (by rw [← hy1]; exact (name_of_methodNamed B.named B.method).1) s.heap [] _ hl hP (wl_D hD0) va_S.rf
theorem n_vret (X : Cx p s m args c cc nL own Ts D cl ca) {ad0 : Nat → Nat} {n0 : Nat} (hr : meth.sig.returnType = none) (hlk : meth.locks = false) (hk : ∀ k, k < n0 → ad k = ad0 k) (d : decode cc pc = .ok (.return_, 1)) : GN p l e R s m args below meth c (MQ below (QcN D cl ca ad0 n0 shs σ s.heap.size) args s cells slots (Aw ad0 n0 s.heap.size)) nL D cl ca (Aw ad0 n0 s.heap.size) ad shs σ pc lv [] cells slots :=
  fun H locs ls hv hP hD hS => W.vret X.1 X.2.1 hr (fun t ht hW => ⟨⟨ad, rfl, hk, by rw [ht]; exact hP, hD⟩, hS.F ht⟩) hS.2.2 d (hlocks := hlk)
def RnN (p : Program) (l : Launch) (e : Env) (R : Room) (s : State) (m : MethodId) (args : Array Value) (below : List Frame) (meth : Method) (c : Code) (nL cells slots mc ms : Nat) (y : MethodName) (ws : List Cond) (rm : Room) (as st st0 : List Value) (pc : Nat) : Prop :=
  ∀ (Pc : Array Value → State → Prop) (Qc : Array Value → State → Outcome → State → Prop) (free : Addr → Prop) (H : Heap) (locs : List Loc) (ls : Array Slot), ls.size = nL → Met l y ws rm Pc Qc mc ms free → FrameBlind Pc → (∀ U : State, U.heap = H → s.WarmedH U.vm → Pc as.toArray U) → va_Run p l e R s m args below meth c H locs cells slots mc ms (F0 m pc ls st0) st (Qc as.toArray) free
theorem rnN_I (X : Cx p s m args c cc nL own Ts D cl ca) {y : MethodName} {bytes : ByteArray} {maxL n idx b : Nat} {ws : List Cond} {rm : Room} {as st0 : List Value} (cw : CallB R s args own idx y bytes maxL none ws rm mc ms n ∧ y.name = "<init>" ∧ (Cond.instanceMethod y).before args s = true) (hn : as.length = n) (hst : st0 = as.reverse ++ .ref b :: st) (hcat : (st.map fun v => v.category).sum ≤ 8) (d : decode cc pc = .ok (.invokespecial idx, 3)) (hf : cells + mc ≤ R.cells ∧ slots + ms ≤ R.slots) : RnN p l e R s m args below meth c nL cells slots mc ms y ws rm (.ref b :: as) st st0 pc :=
  fun _ _ _ _ _ _ hz hM hB hU => va_runI (As := as) (rest := st) ⟨X.1, X.2.1, X.2.2.1, X.2.2.2.1, X.2.2.2.2.1⟩ hM cw ⟨hB, hU⟩ rfl hn hz hst (lv_room hcat) d hf
theorem rnN_IN (X : Cx p s m args c cc nL own Ts D cl ca) {y : MethodName} {bytes : ByteArray} {maxL n idx b : Nat} {host : String} {ws : List Cond} {rm : Room} {as st0 : List Value} (cw : va_CN R s args own idx y host bytes maxL none ws rm mc ms n ∧ y.name = "<init>" ∧ (Cond.instanceMethod y).before args s = true) (hn : as.length = n) (hst : st0 = as.reverse ++ .ref b :: st) (hcat : (st.map fun v => v.category).sum ≤ 8) (d : decode cc pc = .ok (.invokespecial idx, 3)) (hf : cells + mc ≤ R.cells ∧ slots + ms ≤ R.slots) : RnN p l e R s m args below meth c nL cells slots mc ms y ws rm (.ref b :: as) st st0 pc :=
  fun _ _ _ _ _ _ hz hM hB hU => va_runIN (As := as) (rest := st) ⟨X.1, X.2.1, X.2.2.1, X.2.2.2.1, X.2.2.2.2.1⟩ hM cw ⟨hB, hU⟩ rfl hn hz hst (lv_room hcat) d hf
theorem rnN_S (X : Cx p s m args c cc nL own Ts D cl ca) {y : MethodName} {bytes : ByteArray} {maxL n idx : Nat} {ret : Option FieldType} {ws : List Cond} {rm : Room} {as st0 : List Value} (cw : CallB R s args own idx y bytes maxL ret ws rm mc ms n ∧ (Cond.static y).before args s = true) (hn : as.length = n) (hst : st0 = as.reverse ++ st) (hcat : (st.map fun v => v.category).sum ≤ 8) (d : decode cc pc = .ok (.invokestatic idx, 3)) (hf : cells + mc ≤ R.cells ∧ slots + ms ≤ R.slots) : RnN p l e R s m args below meth c nL cells slots mc ms y ws rm as st st0 pc :=
  fun _ _ _ _ _ _ hz hM hB hU => va_runS (As := as) (rest := st) ⟨X.1, X.2.1, X.2.2.1, X.2.2.2.1, X.2.2.2.2.1⟩ hM cw ⟨hB, hU⟩ rfl hn hz hst (lv_room hcat) d hf
theorem n_callN (X : Cx p s m args c cc nL own Ts D cl ca) (NK : NOK N) (hN : N s) (hA : ∀ q, s.heap.size ≤ q → A q) {y : MethodName} {ws : List Cond} {rm : Room} {as st0 : List Value} (hc : CtN l D cl ca N y ws rm as ad shs σ shs' σ' mc ms) (hr : RnN p l e R s m args below meth c nL cells slots mc ms y ws rm as st st0 pc) (K : ∀ ad' : Nat → Nat, (∀ k, k < shs.length → ad' k = ad k) → GN p l e R s m args below meth c Q nL D cl ca A ad' shs' σ' (pc + 3) lv st (cells + mc) (slots + ms)) : GN p l e R s m args below meth c Q nL D cl ca A ad shs σ pc lv st0 cells slots := by
  intro H locs ls hv hP hD hS
  have hF := Aw_in hA hD hS
  refine va_callv (hr _ _ _ H locs ls hv.1 (hc H.size) (pc_blind NK) (pc_pre X NK hN hP hD)) hS (fun q _ h => hF q h) hF (fun u t H1 locs1 ht hvm hp hB hz1 hk1 hS1 => ?_)
  obtain ⟨hP1, hD1⟩ := hB
  rw [ht] at hP1
  exact K u hp H1 locs1 ls hv hP1 (hD1.weaken (fun _ _ _ h => hF _ h)) hS1
theorem n_callV (X : Cx p s m args c cc nL own Ts D cl ca) (NK : NOK N) (hN : N s) (hA : ∀ q, s.heap.size ≤ q → A q) (hR : Rg σ) {y : MethodName} {ws : List Cond} {rm : Room} {as st0 : List Value} {x : Option Mm} (hx : x = some σ') (hc : CtV l D cl ca ad shs N y ws rm as σ x) (hr : RnN p l e R s m args below meth c nL cells slots 0 0 y ws rm as st st0 pc) (K : GN p l e R s m args below meth c Q nL D cl ca A ad shs σ' (pc + 3) lv st cells slots) : GN p l e R s m args below meth c Q nL D cl ca A ad shs σ pc lv st0 cells slots := by
  intro H locs ls hv hP hD hS
  have hF := Aw_in hA hD hS
  refine va_callv (hr _ _ _ H locs ls hv.1 (hc σ' hx hR H.size) (pc_blind NK) (pc_pre X NK hN hP hD)) hS (fun q _ h => hF q h) hF (fun u t H1 locs1 ht hvm hp hB hz1 hk1 hS1 => ?_)
  obtain ⟨rfl, hr2⟩ := hp
  obtain ⟨hP1, hD1⟩ := hB
  rw [ht] at hP1
  exact K H1 locs1 ls hv hP1 (hD1.weaken (fun _ _ _ h => hF _ h)) hS1
end CTOR2
