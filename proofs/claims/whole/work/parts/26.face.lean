/-! SiteObjects.changed(I)I -/
abbrev GX6_changed (p : Program) (l : Launch) (e : Env) (s : State) (m : MethodId) (args : Array Value) (below : List Frame) (meth : Method) (c : Code) (D : va_G) (ca : Nat → ClassId) (ad : Nat → Nat) (res : Int × Mm) : Nat → List (Nat × Value) → List Value → Mm → Option (Int × Mm) → Prop := G p l e { frames := 0, cells := 0, slots := 0, locals := 0 } s m args below meth c (MQ below (QcI D vcl ca ad shC s.heap.size res) args s 0 0 (Aw ad shC.length s.heap.size)) 2 D vcl ca ad shC (Aw ad shC.length s.heap.size) res
def f_X6_changed (x1 : Int) (σ : Mm) : Option (Int × Mm) :=
  some (x1, (stI (stI σ 0 5 0) 0 6 0))
theorem hd_X6_changed : yX6_changed.cls = RX6 ∧ yX6_changed.cls ≠ "java/lang/invoke/MethodHandle" ∧ yX6_changed.cls ≠ "java/lang/invoke/VarHandle" ∧ (parseMethodDescriptor yX6_changed.desc).map (fun d => d.parameters.length) = some 1 := by decide +kernel
set_option maxRecDepth 100000 in
set_option maxHeartbeats 4000000 in
theorem c_X6_changed {l : Launch} {D : va_G} {ca : Nat → ClassId} {ad : Nat → Nat} {x1 : Int} (hx1 : inR x1) {σ : Mm} : CtI l D vcl ca ad shC NC yX6_changed (Cond.code yX6_changed cX6_changed 2 (some .int) :: tbG) { frames := 0, cells := 0, slots := 0, locals := 0 } [.ref (ad 0), .int (oi x1)] σ (f_X6_changed x1 σ) := by
  refine ct_I RX6 rfl (by decide) rfl (Nat.le_of_ble_eq_true rfl) (fun p e s m below meth c res X hN hr hlk => ?_)
  show GX6_changed p l e s m _ below meth c D ca ad res 0 [(0, .ref (ad 0)), (1, .int (oi x1))] [] σ (f_X6_changed x1 σ)
  unfold f_X6_changed
  refine q_aload_n X dX6_changed_0 0 rfl ?_
  refine q_iconst X dX6_changed_1 ?_
  refine fp_X6_92 X (Or.inl rfl) dX6_changed_2 ?_
  refine q_aload_n X dX6_changed_5 0 rfl ?_
  refine q_iconst X dX6_changed_6 ?_
  refine fp_X6_96 X (Or.inl rfl) dX6_changed_7 ?_
  refine q_iload_n X dX6_changed_10 1 rfl ?_
  exact q_iret X hx1 hr hlk dX6_changed_11

/-! SiteObjects.cls(I)I -/
abbrev GX6_cls (p : Program) (l : Launch) (e : Env) (s : State) (m : MethodId) (args : Array Value) (below : List Frame) (meth : Method) (c : Code) (D : va_G) (ca : Nat → ClassId) (ad : Nat → Nat) (res : Int × Mm) : Nat → List (Nat × Value) → List Value → Mm → Option (Int × Mm) → Prop := G p l e { frames := 2, cells := 0, slots := 0, locals := 85 } s m args below meth c (MQ below (QcI D vcl ca ad shC s.heap.size res) args s 0 0 (Aw ad shC.length s.heap.size)) 2 D vcl ca ad shC (Aw ad shC.length s.heap.size) res
def f_X6_cls (x1 : Int) (σ : Mm) : Option (Int × Mm) :=
  (f_X3_isClass x1 σ).bind (fun r1 => (if r1 = 0 then some ((-1), σ) else (if (σ.1 1 0) < 10 then (f_X3_addClass x1 σ).bind (fun r7 => (f_X6_changed r7.1 r7.2).bind (fun r10 => some (r10.1, r10.2))) else some ((-3), σ))))
theorem hd_X6_cls : yX6_cls.cls = RX6 ∧ yX6_cls.cls ≠ "java/lang/invoke/MethodHandle" ∧ yX6_cls.cls ≠ "java/lang/invoke/VarHandle" ∧ (parseMethodDescriptor yX6_cls.desc).map (fun d => d.parameters.length) = some 1 := by decide +kernel
set_option maxRecDepth 100000 in
set_option maxHeartbeats 4000000 in
theorem c_X6_cls {l : Launch} {D : va_G} {ca : Nat → ClassId} {ad : Nat → Nat} {x1 : Int} (hx1 : inR x1) {σ : Mm} : CtI l D vcl ca ad shC NC yX6_cls (Cond.code yX6_cls cX6_cls 2 (some .int) :: tbG) { frames := 2, cells := 0, slots := 0, locals := 85 } [.ref (ad 0), .int (oi x1)] σ (f_X6_cls x1 σ) := by
  refine ct_I RX6 rfl (by decide) rfl (Nat.le_of_ble_eq_true rfl) (fun p e s m below meth c res X hN hr hlk => ?_)
  show GX6_cls p l e s m _ below meth c D ca ad res 0 [(0, .ref (ad 0)), (1, .int (oi x1))] [] σ (f_X6_cls x1 σ)
  unfold f_X6_cls
  refine q_aload_n X dX6_cls_0 0 rfl ?_
  refine fg_X6_10 X dX6_cls_1 ?_
  refine q_iload_n X dX6_cls_4 1 rfl ?_
  refine q_callIp X NCok hN Aw_new (c_X3_isClass hx1) (rn_V X (cwV 1 X.2.2.2.2.1 (tbG_good _ (tbG_V mw_323 mw_324 mw_325 mw_2 mw_326)) rfl rfl rfl hd_X3_isClass ⟨by decide, by decide⟩) hC1 rfl rfl rfl (Nat.le_of_ble_eq_true rfl) dX6_cls_5) (fun r1 _ h3 => ?_)
  refine q_if_ne X h3 13 dX6_cls_8 (by decide) (fun h4 => ?_) (fun h4 => ?_)
  · refine q_iconst X dX6_cls_11 ?_
    exact q_iret X (by decide) hr hlk dX6_cls_12
  · refine q_aload_n X dX6_cls_13 0 rfl ?_
    refine fg_X6_10 X dX6_cls_14 ?_
    refine fg_X6_41 X dX6_cls_17 (fun h5 => ?_)
    refine q_bipush X dX6_cls_20 (by decide) ?_
    refine q_icmp_lt X h5 (by decide) 30 dX6_cls_22 (by decide) (fun h6 => ?_) (fun h6 => ?_)
    · refine q_aload_n X dX6_cls_30 0 rfl ?_
      refine q_aload_n X dX6_cls_31 0 rfl ?_
      refine fg_X6_10 X dX6_cls_32 ?_
      refine q_iload_n X dX6_cls_35 1 rfl ?_
      refine q_callI X NCok hN Aw_new (c_X3_addClass hx1) (rn_V X (cwV 1 X.2.2.2.2.1 (tbG_good _ (tbG_V mw_330 mw_331 mw_332 mw_2 mw_333)) rfl rfl rfl hd_X3_addClass ⟨by decide, by decide⟩) hC1 rfl rfl rfl (Nat.le_of_ble_eq_true rfl) dX6_cls_36) (fun r7 _ h9 => ?_)
      refine q_callI X NCok hN Aw_new (c_X6_changed h9) (rn_V X (cwV 1 X.2.2.2.2.1 (tbG_good _ (tbG_V mw_337 mw_339 mp_1_0 mw_1 mw_340)) rfl rfl rfl hd_X6_changed ⟨by decide, by decide⟩) hC0 rfl rfl rfl (Nat.le_of_ble_eq_true rfl) dX6_cls_39) (fun r10 _ h12 => ?_)
      exact q_iret X h12 hr hlk dX6_cls_42
    · refine q_bipush X dX6_cls_25 (by decide) ?_
      refine q_goto X 42 dX6_cls_27 (by decide) ?_
      exact q_iret X (by decide) hr hlk dX6_cls_42

/-! SiteObjects.method(II)I -/
abbrev GX6_method (p : Program) (l : Launch) (e : Env) (s : State) (m : MethodId) (args : Array Value) (below : List Frame) (meth : Method) (c : Code) (D : va_G) (ca : Nat → ClassId) (ad : Nat → Nat) (res : Int × Mm) : Nat → List (Nat × Value) → List Value → Mm → Option (Int × Mm) → Prop := G p l e { frames := 3, cells := 0, slots := 0, locals := 70 } s m args below meth c (MQ below (QcI D vcl ca ad shC s.heap.size res) args s 0 0 (Aw ad shC.length s.heap.size)) 4 D vcl ca ad shC (Aw ad shC.length s.heap.size) res
def f_X6_method_29 (x1 : Int) (x2 : Int) (x3 : Int) (σ : Mm) : Option (Int × Mm) :=
  (if (σ.1 1 1) < 12 then (if x3 = 0 then (f_X3_addMethod x1 x2 σ).bind (fun r4 => (f_X6_changed r4.1 r4.2).bind (fun r7 => some (r7.1, r7.2))) else (f_X3_addMethod x1 (-1) σ).bind (fun r10 => (f_X6_changed r10.1 r10.2).bind (fun r13 => some (r13.1, r13.2)))) else some ((-3), σ))
set_option maxRecDepth 100000 in
set_option maxHeartbeats 4000000 in
theorem t_X6_method_29 {p : Program} {l : Launch} {e : Env} {s : State} {m : MethodId} {args : Array Value} {below : List Frame} {meth : Method} {c : Code} {D : va_G} {ca : Nat → ClassId} {ad : Nat → Nat} {res : Int × Mm} (X : Cx p s m args c cX6_method 4 RX6 (Cond.code yX6_method cX6_method 4 (some .int) :: tbG) D vcl ca) (hN : NC s) (hr : meth.sig.returnType = (some .int)) (hlk : meth.locks = false) : ∀ (x1 : Int) (x2 : Int) (x3 : Int) (σ : Mm), inR x1 → inR x2 → inR x3 → GX6_method p l e s m args below meth c D ca ad res 29 [(0, .ref (ad 0)), (1, .int (oi x1)), (2, .int (oi x2)), (3, .int (oi x3))] [] σ (f_X6_method_29 x1 x2 x3 σ) := by
  intro x1 x2 x3 σ hx1 hx2 hx3
  unfold f_X6_method_29
  refine q_aload_n X dX6_method_29 0 rfl ?_
  refine fg_X6_10 X dX6_method_30 ?_
  refine fg_X6_56 X dX6_method_33 (fun h1 => ?_)
  refine q_bipush X dX6_method_36 (by decide) ?_
  refine q_icmp_lt X h1 (by decide) 44 dX6_method_38 (by decide) (fun h2 => ?_) (fun h2 => ?_)
  · refine q_aload_n X dX6_method_44 0 rfl ?_
    refine q_aload_n X dX6_method_45 0 rfl ?_
    refine fg_X6_10 X dX6_method_46 ?_
    refine q_iload_n X dX6_method_49 1 rfl ?_
    refine q_iload_n X dX6_method_50 3 rfl ?_
    refine q_if_eq X hx3 58 dX6_method_51 (by decide) (fun h3 => ?_) (fun h3 => ?_)
    · refine q_iload_n X dX6_method_58 2 rfl ?_
      refine q_callI X NCok hN Aw_new (c_X3_addMethod hx1 hx2) (rn_V X (cwV 2 X.2.2.2.2.1 (tbG_good _ (tbG_V mw_350 mw_351 mw_352 mw_2 mw_353)) rfl rfl rfl hd_X3_addMethod ⟨by decide, by decide⟩) hC1 rfl rfl rfl (Nat.le_of_ble_eq_true rfl) dX6_method_59) (fun r4 _ h6 => ?_)
      refine q_callI X NCok hN Aw_new (c_X6_changed h6) (rn_V X (cwV 1 X.2.2.2.2.1 (tbG_good _ (tbG_V mw_337 mw_339 mp_1_0 mw_1 mw_340)) rfl rfl rfl hd_X6_changed ⟨by decide, by decide⟩) hC0 rfl rfl rfl (Nat.le_of_ble_eq_true rfl) dX6_method_62) (fun r7 _ h9 => ?_)
      exact q_iret X h9 hr hlk dX6_method_65
    · refine q_iconst X dX6_method_54 ?_
      refine q_goto X 59 dX6_method_55 (by decide) ?_
      refine q_callI X NCok hN Aw_new (c_X3_addMethod hx1 (by decide)) (rn_V X (cwV 2 X.2.2.2.2.1 (tbG_good _ (tbG_V mw_350 mw_351 mw_352 mw_2 mw_353)) rfl rfl rfl hd_X3_addMethod ⟨by decide, by decide⟩) hC1 rfl rfl rfl (Nat.le_of_ble_eq_true rfl) dX6_method_59) (fun r10 _ h12 => ?_)
      refine q_callI X NCok hN Aw_new (c_X6_changed h12) (rn_V X (cwV 1 X.2.2.2.2.1 (tbG_good _ (tbG_V mw_337 mw_339 mp_1_0 mw_1 mw_340)) rfl rfl rfl hd_X6_changed ⟨by decide, by decide⟩) hC0 rfl rfl rfl (Nat.le_of_ble_eq_true rfl) dX6_method_62) (fun r13 _ h15 => ?_)
      exact q_iret X h15 hr hlk dX6_method_65
  · refine q_bipush X dX6_method_41 (by decide) ?_
    exact q_iret X (by decide) hr hlk dX6_method_43
def f_X6_method_10 (x1 : Int) (x2 : Int) (s0 : Int) (σ : Mm) : Option (Int × Mm) :=
  (if s0 = 0 then (f_X3_isFreeFor x1 x2 σ).bind (fun r17 => (if r17 = 0 then some ((-1), σ) else f_X6_method_29 x1 x2 s0 σ)) else f_X6_method_29 x1 x2 s0 σ)
set_option maxRecDepth 100000 in
set_option maxHeartbeats 4000000 in
theorem t_X6_method_10 {p : Program} {l : Launch} {e : Env} {s : State} {m : MethodId} {args : Array Value} {below : List Frame} {meth : Method} {c : Code} {D : va_G} {ca : Nat → ClassId} {ad : Nat → Nat} {res : Int × Mm} (X : Cx p s m args c cX6_method 4 RX6 (Cond.code yX6_method cX6_method 4 (some .int) :: tbG) D vcl ca) (hN : NC s) (hr : meth.sig.returnType = (some .int)) (hlk : meth.locks = false) : ∀ (x1 : Int) (x2 : Int) (s0 : Int) (σ : Mm), inR x1 → inR x2 → inR s0 → GX6_method p l e s m args below meth c D ca ad res 10 [(0, .ref (ad 0)), (1, .int (oi x1)), (2, .int (oi x2))] [.int (oi s0)] σ (f_X6_method_10 x1 x2 s0 σ) := by
  intro x1 x2 s0 σ hx1 hx2 hs0
  unfold f_X6_method_10
  refine q_istore_n X [(3, .int (oi s0)), (0, .ref (ad 0)), (1, .int (oi x1)), (2, .int (oi x2))] dX6_method_10 (by decide) rfl ?_
  refine q_iload_n X dX6_method_11 0 rfl ?_
  refine q_if_ne X hs0 29 dX6_method_12 (by decide) (fun h16 => ?_) (fun h16 => ?_)
  · refine q_aload_n X dX6_method_15 1 rfl ?_
    refine fg_X6_10 X dX6_method_16 ?_
    refine q_iload_n X dX6_method_19 2 rfl ?_
    refine q_iload_n X dX6_method_20 3 rfl ?_
    refine q_callIp X NCok hN Aw_new (c_X3_isFreeFor hx1 hx2) (rn_V X (cwV 2 X.2.2.2.2.1 (tbG_good _ (tbG_V mw_345 mw_346 mw_347 mw_2 mw_348)) rfl rfl rfl hd_X3_isFreeFor ⟨by decide, by decide⟩) hC1 rfl rfl rfl (Nat.le_of_ble_eq_true rfl) dX6_method_21) (fun r17 _ h19 => ?_)
    refine q_if_ne X h19 29 dX6_method_24 (by decide) (fun h20 => ?_) (fun h20 => ?_)
    · refine q_iconst X dX6_method_27 ?_
      exact q_iret X (by decide) hr hlk dX6_method_28
    · refine q_sub [(0, .ref (ad 0)), (1, .int (oi x1)), (2, .int (oi x2)), (3, .int (oi s0))] [1, 2, 3, 0] rfl ?_
      exact t_X6_method_29 X hN hr hlk x1 x2 s0 σ hx1 hx2 hs0
  · refine q_sub [(0, .ref (ad 0)), (1, .int (oi x1)), (2, .int (oi x2)), (3, .int (oi s0))] [1, 2, 3, 0] rfl ?_
    exact t_X6_method_29 X hN hr hlk x1 x2 s0 σ hx1 hx2 hs0
def f_X6_method (x1 : Int) (x2 : Int) (σ : Mm) : Option (Int × Mm) :=
  (if x1 = (-1) then f_X6_method_10 x1 x2 1 σ else f_X6_method_10 x1 x2 0 σ)
theorem hd_X6_method : yX6_method.cls = RX6 ∧ yX6_method.cls ≠ "java/lang/invoke/MethodHandle" ∧ yX6_method.cls ≠ "java/lang/invoke/VarHandle" ∧ (parseMethodDescriptor yX6_method.desc).map (fun d => d.parameters.length) = some 2 := by decide +kernel
set_option maxRecDepth 100000 in
set_option maxHeartbeats 4000000 in
theorem c_X6_method {l : Launch} {D : va_G} {ca : Nat → ClassId} {ad : Nat → Nat} {x1 : Int} {x2 : Int} (hx1 : inR x1) (hx2 : inR x2) {σ : Mm} : CtI l D vcl ca ad shC NC yX6_method (Cond.code yX6_method cX6_method 4 (some .int) :: tbG) { frames := 3, cells := 0, slots := 0, locals := 70 } [.ref (ad 0), .int (oi x1), .int (oi x2)] σ (f_X6_method x1 x2 σ) := by
  refine ct_I RX6 rfl (by decide) rfl (Nat.le_of_ble_eq_true rfl) (fun p e s m below meth c res X hN hr hlk => ?_)
  show GX6_method p l e s m _ below meth c D ca ad res 0 [(0, .ref (ad 0)), (1, .int (oi x1)), (2, .int (oi x2))] [] σ (f_X6_method x1 x2 σ)
  unfold f_X6_method
  refine q_iload_n X dX6_method_0 1 rfl ?_
  refine q_iconst X dX6_method_1 ?_
  refine q_icmp_ne X hx1 (by decide) 9 dX6_method_2 (by decide) (fun h21 => ?_) (fun h21 => ?_)
  · refine q_iconst X dX6_method_5 ?_
    refine q_goto X 10 dX6_method_6 (by decide) ?_
    refine q_sub [(0, .ref (ad 0)), (1, .int (oi x1)), (2, .int (oi x2))] [0, 1, 2] rfl ?_
    exact t_X6_method_10 X hN hr hlk x1 x2 1 σ hx1 hx2 (by decide)
  · refine q_iconst X dX6_method_9 ?_
    refine q_sub [(0, .ref (ad 0)), (1, .int (oi x1)), (2, .int (oi x2))] [0, 1, 2] rfl ?_
    exact t_X6_method_10 X hN hr hlk x1 x2 0 σ hx1 hx2 (by decide)

/-! SiteObjects.step(IIIIII)I -/
abbrev GX6_step (p : Program) (l : Launch) (e : Env) (s : State) (m : MethodId) (args : Array Value) (below : List Frame) (meth : Method) (c : Code) (D : va_G) (ca : Nat → ClassId) (ad : Nat → Nat) (res : Int × Mm) : Nat → List (Nat × Value) → List Value → Mm → Option (Int × Mm) → Prop := G p l e { frames := 4, cells := 0, slots := 0, locals := 85 } s m args below meth c (MQ below (QcI D vcl ca ad shC s.heap.size res) args s 0 0 (Aw ad shC.length s.heap.size)) 9 D vcl ca ad shC (Aw ad shC.length s.heap.size) res
def f_X6_step (x1 : Int) (x2 : Int) (x3 : Int) (x4 : Int) (x5 : Int) (x6 : Int) (σ : Mm) : Option (Int × Mm) :=
  (f_X3_isMethod x1 σ).bind (fun r1 => (if r1 = 0 then some ((-1), σ) else (f_X6_isIn x2 17 σ).bind (fun r5 => (if r5 = 0 then some ((-1), σ) else ck (inR (4 * x2)) (ck ((0 : Int) ≤ (4 * x2) ∧ (4 * x2) < ((68 : Nat) : Int)) ((f_X3_isOfSort (sortsT (Int.toNat (4 * x2))) x3 σ).bind (fun r10 => (if r10 = 0 then some ((-1), σ) else ck ((0 : Int) ≤ ((4 * x2) + 1) ∧ ((4 * x2) + 1) < ((68 : Nat) : Int)) ((f_X3_isOfSort (sortsT (Int.toNat ((4 * x2) + 1))) x4 σ).bind (fun r14 => (if r14 = 0 then some ((-1), σ) else ck ((0 : Int) ≤ ((4 * x2) + 2) ∧ ((4 * x2) + 2) < ((68 : Nat) : Int)) ((f_X3_isOfSort (sortsT (Int.toNat ((4 * x2) + 2))) x5 σ).bind (fun r18 => (if r18 = 0 then some ((-1), σ) else ck ((0 : Int) ≤ ((4 * x2) + 3) ∧ ((4 * x2) + 3) < ((68 : Nat) : Int)) ((f_X3_isOfSort (sortsT (Int.toNat ((4 * x2) + 3))) x6 σ).bind (fun r22 => (if r22 = 0 then some ((-1), σ) else (f_X3_hasRoomFor x2 σ).bind (fun r26 => (if r26 = 0 then some ((-3), σ) else (f_X3_addStep x1 x2 σ).bind (fun r30 => (f_X3_tellNumbers r30.1 x3 x4 x5 x6 r30.2).bind (fun r33 => (f_X6_changed r30.1 r33).bind (fun r36 => some (r36.1, r36.2)))))))))))))))))))))))
theorem hd_X6_step : yX6_step.cls = RX6 ∧ yX6_step.cls ≠ "java/lang/invoke/MethodHandle" ∧ yX6_step.cls ≠ "java/lang/invoke/VarHandle" ∧ (parseMethodDescriptor yX6_step.desc).map (fun d => d.parameters.length) = some 6 := by decide +kernel
set_option maxRecDepth 100000 in
set_option maxHeartbeats 4000000 in
theorem c_X6_step {l : Launch} {D : va_G} {ca : Nat → ClassId} {ad : Nat → Nat} {tb : Nat} {x1 : Int} {x2 : Int} {x3 : Int} {x4 : Int} {x5 : Int} {x6 : Int} (hx1 : inR x1) (hx2 : inR x2) (hx3 : inR x3) (hx4 : inR x4) (hx5 : inR x5) (hx6 : inR x6) {σ : Mm} : CtI l D vcl ca ad shC (NS ad tb) yX6_step (Cond.code yX6_step cX6_step 9 (some .int) :: tbG) { frames := 4, cells := 0, slots := 0, locals := 85 } [.ref (ad 0), .int (oi x1), .int (oi x2), .int (oi x3), .int (oi x4), .int (oi x5), .int (oi x6)] σ (f_X6_step x1 x2 x3 x4 x5 x6 σ) := by
  refine ct_I RX6 rfl (by decide) rfl (Nat.le_of_ble_eq_true rfl) (fun p e s m below meth c res X hN hr hlk => ?_)
  show GX6_step p l e s m _ below meth c D ca ad res 0 [(0, .ref (ad 0)), (1, .int (oi x1)), (2, .int (oi x2)), (3, .int (oi x3)), (4, .int (oi x4)), (5, .int (oi x5)), (6, .int (oi x6))] [] σ (f_X6_step x1 x2 x3 x4 x5 x6 σ)
  unfold f_X6_step
  refine q_aload_n X dX6_step_0 0 rfl ?_
  refine fg_X6_10 X dX6_step_1 ?_
  refine q_iload_n X dX6_step_4 1 rfl ?_
  refine q_callIp X NCok hN.1 Aw_new (c_X3_isMethod hx1) (rn_V X (cwV 1 X.2.2.2.2.1 (tbG_good _ (tbG_V mw_366 mw_367 mw_368 mw_2 mw_369)) rfl rfl rfl hd_X3_isMethod ⟨by decide, by decide⟩) hC1 rfl rfl rfl (Nat.le_of_ble_eq_true rfl) dX6_step_5) (fun r1 _ h3 => ?_)
  refine q_if_eq X h3 20 dX6_step_8 (by decide) (fun h4 => ?_) (fun h4 => ?_)
  · refine q_iconst X dX6_step_20 ?_
    exact q_iret X (by decide) hr hlk dX6_step_21
  · refine q_iload_n X dX6_step_11 2 rfl ?_
    refine q_bipush X dX6_step_12 (by decide) ?_
    refine q_callIp X NCok hN.1 Aw_new (c_X6_isIn hx2 (by decide)) (rn_S X (va_cwS 2 X.2.2.2.2.1 (tbG_good _ (tbG_S mw_370 mw_328 mw_1 mw_329)) rfl rfl rfl hd_X6_isIn ⟨by decide, by decide⟩) rfl rfl (Nat.le_of_ble_eq_true rfl) dX6_step_14) (fun r5 _ h7 => ?_)
    refine q_if_ne X h7 22 dX6_step_17 (by decide) (fun h8 => ?_) (fun h8 => ?_)
    · refine q_iconst X dX6_step_20 ?_
      exact q_iret X (by decide) hr hlk dX6_step_21
    · refine q_iconst X dX6_step_22 ?_
      refine q_iload_n X dX6_step_23 2 rfl ?_
      refine q_imul X dX6_step_24 ?_
      refine q_ck (fun h9 => ?_)
      refine q_istore X [(7, .int (oi (4 * x2))), (0, .ref (ad 0)), (1, .int (oi x1)), (2, .int (oi x2)), (3, .int (oi x3)), (4, .int (oi x4)), (5, .int (oi x5)), (6, .int (oi x6))] dX6_step_25 (by decide) rfl ?_
      refine q_aload_n X dX6_step_27 1 rfl ?_
      refine fg_X6_10 X dX6_step_28 ?_
      refine q_gets X hN.2.1 (List.mem_cons_of_mem _ mw_371) dX6_step_31 ?_
      refine q_iload X dX6_step_34 0 rfl ?_
      refine q_tab X hN.2.2 dX6_step_36 ?_
      refine q_iload_n X dX6_step_37 4 rfl ?_
      refine q_callIp X NCok hN.1 Aw_new (c_X3_isOfSort (sortsT_r _) hx3) (rn_V X (cwV 2 X.2.2.2.2.1 (tbG_good _ (tbG_V mw_373 mw_374 mw_375 mw_2 mw_376)) rfl rfl rfl hd_X3_isOfSort ⟨by decide, by decide⟩) hC1 rfl rfl rfl (Nat.le_of_ble_eq_true rfl) dX6_step_38) (fun r10 _ h12 => ?_)
      refine q_if_eq X h12 104 dX6_step_41 (by decide) (fun h13 => ?_) (fun h13 => ?_)
      · refine q_iconst X dX6_step_104 ?_
        exact q_iret X (by decide) hr hlk dX6_step_105
      · refine q_aload_n X dX6_step_44 1 rfl ?_
        refine fg_X6_10 X dX6_step_45 ?_
        refine q_gets X hN.2.1 (List.mem_cons_of_mem _ mw_371) dX6_step_48 ?_
        refine q_iload X dX6_step_51 0 rfl ?_
        refine q_iconst X dX6_step_53 ?_
        refine q_iadd X dX6_step_54 ?_
        refine q_tab X hN.2.2 dX6_step_55 ?_
        refine q_iload X dX6_step_56 5 rfl ?_
        refine q_callIp X NCok hN.1 Aw_new (c_X3_isOfSort (sortsT_r _) hx4) (rn_V X (cwV 2 X.2.2.2.2.1 (tbG_good _ (tbG_V mw_373 mw_374 mw_375 mw_2 mw_376)) rfl rfl rfl hd_X3_isOfSort ⟨by decide, by decide⟩) hC1 rfl rfl rfl (Nat.le_of_ble_eq_true rfl) dX6_step_58) (fun r14 _ h16 => ?_)
        refine q_if_eq X h16 104 dX6_step_61 (by decide) (fun h17 => ?_) (fun h17 => ?_)
        · refine q_iconst X dX6_step_104 ?_
          exact q_iret X (by decide) hr hlk dX6_step_105
        · refine q_aload_n X dX6_step_64 1 rfl ?_
          refine fg_X6_10 X dX6_step_65 ?_
          refine q_gets X hN.2.1 (List.mem_cons_of_mem _ mw_371) dX6_step_68 ?_
          refine q_iload X dX6_step_71 0 rfl ?_
          refine q_iconst X dX6_step_73 ?_
          refine q_iadd X dX6_step_74 ?_
          refine q_tab X hN.2.2 dX6_step_75 ?_
          refine q_iload X dX6_step_76 6 rfl ?_
          refine q_callIp X NCok hN.1 Aw_new (c_X3_isOfSort (sortsT_r _) hx5) (rn_V X (cwV 2 X.2.2.2.2.1 (tbG_good _ (tbG_V mw_373 mw_374 mw_375 mw_2 mw_376)) rfl rfl rfl hd_X3_isOfSort ⟨by decide, by decide⟩) hC1 rfl rfl rfl (Nat.le_of_ble_eq_true rfl) dX6_step_78) (fun r18 _ h20 => ?_)
          refine q_if_eq X h20 104 dX6_step_81 (by decide) (fun h21 => ?_) (fun h21 => ?_)
          · refine q_iconst X dX6_step_104 ?_
            exact q_iret X (by decide) hr hlk dX6_step_105
          · refine q_aload_n X dX6_step_84 1 rfl ?_
            refine fg_X6_10 X dX6_step_85 ?_
            refine q_gets X hN.2.1 (List.mem_cons_of_mem _ mw_371) dX6_step_88 ?_
            refine q_iload X dX6_step_91 0 rfl ?_
            refine q_iconst X dX6_step_93 ?_
            refine q_iadd X dX6_step_94 ?_
            refine q_tab X hN.2.2 dX6_step_95 ?_
            refine q_iload X dX6_step_96 7 rfl ?_
            refine q_callIp X NCok hN.1 Aw_new (c_X3_isOfSort (sortsT_r _) hx6) (rn_V X (cwV 2 X.2.2.2.2.1 (tbG_good _ (tbG_V mw_373 mw_374 mw_375 mw_2 mw_376)) rfl rfl rfl hd_X3_isOfSort ⟨by decide, by decide⟩) hC1 rfl rfl rfl (Nat.le_of_ble_eq_true rfl) dX6_step_98) (fun r22 _ h24 => ?_)
            refine q_if_ne X h24 106 dX6_step_101 (by decide) (fun h25 => ?_) (fun h25 => ?_)
            · refine q_iconst X dX6_step_104 ?_
              exact q_iret X (by decide) hr hlk dX6_step_105
            · refine q_aload_n X dX6_step_106 1 rfl ?_
              refine fg_X6_10 X dX6_step_107 ?_
              refine q_iload_n X dX6_step_110 3 rfl ?_
              refine q_callIp X NCok hN.1 Aw_new (c_X3_hasRoomFor hx2) (rn_V X (cwV 1 X.2.2.2.2.1 (tbG_good _ (tbG_V mw_382 mw_383 mw_384 mw_2 mw_385)) rfl rfl rfl hd_X3_hasRoomFor ⟨by decide, by decide⟩) hC1 rfl rfl rfl (Nat.le_of_ble_eq_true rfl) dX6_step_111) (fun r26 _ h28 => ?_)
              refine q_if_ne X h28 120 dX6_step_114 (by decide) (fun h29 => ?_) (fun h29 => ?_)
              · refine q_bipush X dX6_step_117 (by decide) ?_
                exact q_iret X (by decide) hr hlk dX6_step_119
              · refine q_aload_n X dX6_step_120 1 rfl ?_
                refine fg_X6_10 X dX6_step_121 ?_
                refine q_iload_n X dX6_step_124 2 rfl ?_
                refine q_iload_n X dX6_step_125 3 rfl ?_
                refine q_callI X NCok hN.1 Aw_new (c_X3_addStep hx1 hx2) (rn_V X (cwV 2 X.2.2.2.2.1 (tbG_good _ (tbG_V mw_386 mw_387 mw_388 mw_2 mw_389)) rfl rfl rfl hd_X3_addStep ⟨by decide, by decide⟩) hC1 rfl rfl rfl (Nat.le_of_ble_eq_true rfl) dX6_step_126) (fun r30 _ h32 => ?_)
                refine q_istore X [(8, .int (oi r30.1)), (7, .int (oi (4 * x2))), (0, .ref (ad 0)), (1, .int (oi x1)), (2, .int (oi x2)), (3, .int (oi x3)), (4, .int (oi x4)), (5, .int (oi x5)), (6, .int (oi x6))] dX6_step_129 (by decide) rfl ?_
                refine q_aload_n X dX6_step_131 2 rfl ?_
                refine fg_X6_10 X dX6_step_132 ?_
                refine q_iload X dX6_step_135 0 rfl ?_
                refine q_iload_n X dX6_step_137 5 rfl ?_
                refine q_iload X dX6_step_138 6 rfl ?_
                refine q_iload X dX6_step_140 7 rfl ?_
                refine q_iload X dX6_step_142 8 rfl ?_
                refine q_callV X NCok hN.1 Aw_new (c_X3_tellNumbers h32 hx3 hx4 hx5 hx6) (rn_V X (cwV 5 X.2.2.2.2.1 (tbG_good _ (tbG_V mw_390 mw_391 mw_392 mw_2 mw_393)) rfl rfl rfl hd_X3_tellNumbers ⟨by decide, by decide⟩) hC1 rfl rfl rfl (Nat.le_of_ble_eq_true rfl) dX6_step_144) (fun r33 _ => ?_)
                refine q_aload_n X dX6_step_147 2 rfl ?_
                refine q_iload X dX6_step_148 0 rfl ?_
                refine q_callI X NCok hN.1 Aw_new (c_X6_changed h32) (rn_V X (cwV 1 X.2.2.2.2.1 (tbG_good _ (tbG_V mw_337 mw_339 mp_1_0 mw_1 mw_340)) rfl rfl rfl hd_X6_changed ⟨by decide, by decide⟩) hC0 rfl rfl rfl (Nat.le_of_ble_eq_true rfl) dX6_step_150) (fun r36 _ h38 => ?_)
                exact q_iret X h38 hr hlk dX6_step_153

/-! SiteObjects.work(III)I -/
abbrev GX6_work (p : Program) (l : Launch) (e : Env) (s : State) (m : MethodId) (args : Array Value) (below : List Frame) (meth : Method) (c : Code) (D : va_G) (ca : Nat → ClassId) (ad : Nat → Nat) (res : Int × Mm) : Nat → List (Nat × Value) → List Value → Mm → Option (Int × Mm) → Prop := G p l e { frames := 7, cells := 0, slots := 0, locals := 182 } s m args below meth c (MQ below (QcI D vcl ca ad shC s.heap.size res) args s 0 0 (Aw ad shC.length s.heap.size)) 4 D vcl ca ad shC (Aw ad shC.length s.heap.size) res
def f_X6_work (x1 : Int) (x2 : Int) (x3 : Int) (σ : Mm) : Option (Int × Mm) :=
  (f_X3_isStatic x1 σ).bind (fun r1 => (if r1 = 0 then some ((-1), σ) else (f_X6_isIn x2 3 σ).bind (fun r5 => (if r5 = 0 then some ((-1), σ) else (f_X6_isIn x3 3 σ).bind (fun r9 => (if r9 = 0 then some ((-1), σ) else (f_X0_find 15 x1 x2 x3 (stI (stI (stI σ 0 4 x1) 0 5 1) 0 6 0)).bind (fun r13 => some (r13.1, r13.2))))))))
theorem hd_X6_work : yX6_work.cls = RX6 ∧ yX6_work.cls ≠ "java/lang/invoke/MethodHandle" ∧ yX6_work.cls ≠ "java/lang/invoke/VarHandle" ∧ (parseMethodDescriptor yX6_work.desc).map (fun d => d.parameters.length) = some 3 := by decide +kernel
set_option maxRecDepth 100000 in
set_option maxHeartbeats 4000000 in
theorem c_X6_work {l : Launch} {D : va_G} {ca : Nat → ClassId} {ad : Nat → Nat} {x1 : Int} {x2 : Int} {x3 : Int} (hx1 : inR x1) (hx2 : inR x2) (hx3 : inR x3) {σ : Mm} : CtI l D vcl ca ad shC NC yX6_work (Cond.code yX6_work cX6_work 4 (some .int) :: tbG) { frames := 7, cells := 0, slots := 0, locals := 182 } [.ref (ad 0), .int (oi x1), .int (oi x2), .int (oi x3)] σ (f_X6_work x1 x2 x3 σ) := by
  refine ct_I RX6 rfl (by decide) rfl (Nat.le_of_ble_eq_true rfl) (fun p e s m below meth c res X hN hr hlk => ?_)
  show GX6_work p l e s m _ below meth c D ca ad res 0 [(0, .ref (ad 0)), (1, .int (oi x1)), (2, .int (oi x2)), (3, .int (oi x3))] [] σ (f_X6_work x1 x2 x3 σ)
  unfold f_X6_work
  refine q_aload_n X dX6_work_0 0 rfl ?_
  refine fg_X6_10 X dX6_work_1 ?_
  refine q_iload_n X dX6_work_4 1 rfl ?_
  refine q_callIp X NCok hN Aw_new (c_X3_isStatic hx1) (rn_V X (cwV 1 X.2.2.2.2.1 (tbG_good _ (tbG_V mw_398 mw_378 mw_379 mw_2 mw_380)) rfl rfl rfl hd_X3_isStatic ⟨by decide, by decide⟩) hC1 rfl rfl rfl (Nat.le_of_ble_eq_true rfl) dX6_work_5) (fun r1 _ h3 => ?_)
  refine q_if_eq X h3 27 dX6_work_8 (by decide) (fun h4 => ?_) (fun h4 => ?_)
  · refine q_iconst X dX6_work_27 ?_
    exact q_iret X (by decide) hr hlk dX6_work_28
  · refine q_iload_n X dX6_work_11 2 rfl ?_
    refine q_iconst X dX6_work_12 ?_
    refine q_callIp X NCok hN Aw_new (c_X6_isIn hx2 (by decide)) (rn_S X (va_cwS 2 X.2.2.2.2.1 (tbG_good _ (tbG_S mw_370 mw_328 mw_1 mw_329)) rfl rfl rfl hd_X6_isIn ⟨by decide, by decide⟩) rfl rfl (Nat.le_of_ble_eq_true rfl) dX6_work_13) (fun r5 _ h7 => ?_)
    refine q_if_eq X h7 27 dX6_work_16 (by decide) (fun h8 => ?_) (fun h8 => ?_)
    · refine q_iconst X dX6_work_27 ?_
      exact q_iret X (by decide) hr hlk dX6_work_28
    · refine q_iload_n X dX6_work_19 3 rfl ?_
      refine q_iconst X dX6_work_20 ?_
      refine q_callIp X NCok hN Aw_new (c_X6_isIn hx3 (by decide)) (rn_S X (va_cwS 2 X.2.2.2.2.1 (tbG_good _ (tbG_S mw_370 mw_328 mw_1 mw_329)) rfl rfl rfl hd_X6_isIn ⟨by decide, by decide⟩) rfl rfl (Nat.le_of_ble_eq_true rfl) dX6_work_21) (fun r9 _ h11 => ?_)
      refine q_if_ne X h11 29 dX6_work_24 (by decide) (fun h12 => ?_) (fun h12 => ?_)
      · refine q_iconst X dX6_work_27 ?_
        exact q_iret X (by decide) hr hlk dX6_work_28
      · refine q_aload_n X dX6_work_29 0 rfl ?_
        refine q_iload_n X dX6_work_30 1 rfl ?_
        refine fp_X6_89 X hx1 dX6_work_31 ?_
        refine q_aload_n X dX6_work_34 0 rfl ?_
        refine q_iconst X dX6_work_35 ?_
        refine fp_X6_92 X (Or.inr rfl) dX6_work_36 ?_
        refine q_aload_n X dX6_work_39 0 rfl ?_
        refine q_iconst X dX6_work_40 ?_
        refine fp_X6_96 X (Or.inl rfl) dX6_work_41 ?_
        refine q_aload_n X dX6_work_44 0 rfl ?_
        refine fg_X6_21 X dX6_work_45 ?_
        refine q_iload_n X dX6_work_48 1 rfl ?_
        refine q_iload_n X dX6_work_49 2 rfl ?_
        refine q_iload_n X dX6_work_50 3 rfl ?_
        refine q_callI X NCok hN Aw_new (c_X0_find (Or.inl rfl) hx1 hx2 hx3) (rn_V X (cwV 3 X.2.2.2.2.1 (tbG_good _ (tbG_V mw_399 mw_400 mw_401 mw_4 mw_402)) rfl rfl rfl hd_X0_find ⟨by decide, by decide⟩) (hO0 (Or.inl rfl)) rfl rfl rfl (Nat.le_of_ble_eq_true rfl) dX6_work_51) (fun r13 _ h15 => ?_)
        exact q_iret X h15 hr hlk dX6_work_54

/-! SiteObjects.name(II)I -/
abbrev GX6_name (p : Program) (l : Launch) (e : Env) (s : State) (m : MethodId) (args : Array Value) (below : List Frame) (meth : Method) (c : Code) (D : va_G) (ca : Nat → ClassId) (ad : Nat → Nat) (σ : Mm) (res : Int) : Nat → List (Nat × Value) → List Value → Mm → Option (Int) → Prop := G p l e { frames := 1, cells := 0, slots := 0, locals := 21 } s m args below meth c (MQ below (QcI D vcl ca ad shC s.heap.size (res, σ)) args s 0 0 (Aw ad shC.length s.heap.size)) 5 D vcl ca ad shC (Aw ad shC.length s.heap.size) res
def f_X6_name (x1 : Int) (x2 : Int) (σ : Mm) : Option (Int) :=
  (f_X6_isIn x2 5 σ).bind (fun r1 => (if r1 = 0 then some (-1) else (if (σ.1 0 5) = 0 then some (-2) else (f_X6_isIn x1 (σ.1 24 3) σ).bind (fun r8 => (if r8 = 0 then some (-1) else ck ((0 : Int) ≤ x1 ∧ x1 < ((60 : Nat) : Int)) (ck ((0 : Int) ≤ x1 ∧ x1 < ((60 : Nat) : Int)) ((if x2 = 0 then some (σ.1 27 (Int.toNat x1)) else (if x2 = 1 then ck ((0 : Int) ≤ (σ.1 27 (Int.toNat x1)) ∧ (σ.1 27 (Int.toNat x1)) < ((90 : Nat) : Int)) (some (σ.1 10 (Int.toNat (σ.1 27 (Int.toNat x1))))) else (if x2 = 2 then ck ((0 : Int) ≤ (σ.1 27 (Int.toNat x1)) ∧ (σ.1 27 (Int.toNat x1)) < ((90 : Nat) : Int)) ((if (σ.1 8 (Int.toNat (σ.1 27 (Int.toNat x1)))) = 1 then some 1 else some 0)) else (if x2 = 3 then some (σ.1 28 (Int.toNat x1)) else ck ((0 : Int) ≤ (σ.1 28 (Int.toNat x1)) ∧ (σ.1 28 (Int.toNat x1)) < ((80 : Nat) : Int)) ((if (σ.1 22 (Int.toNat (σ.1 28 (Int.toNat x1)))) = 0 then some 0 else some 1)))))))))))))
theorem hd_X6_name : yX6_name.cls = RX6 ∧ yX6_name.cls ≠ "java/lang/invoke/MethodHandle" ∧ yX6_name.cls ≠ "java/lang/invoke/VarHandle" ∧ (parseMethodDescriptor yX6_name.desc).map (fun d => d.parameters.length) = some 2 := by decide +kernel
set_option maxRecDepth 100000 in
set_option maxHeartbeats 4000000 in
theorem c_X6_name {l : Launch} {D : va_G} {ca : Nat → ClassId} {ad : Nat → Nat} {x1 : Int} {x2 : Int} (hx1 : inR x1) (hx2 : inR x2) {σ : Mm} : CtI l D vcl ca ad shC NC yX6_name (Cond.code yX6_name cX6_name 5 (some .int) :: tbG) { frames := 1, cells := 0, slots := 0, locals := 21 } [.ref (ad 0), .int (oi x1), .int (oi x2)] σ ((f_X6_name x1 x2 σ).map (fun r => (r, σ))) := by
  refine ct_Ip RX6 rfl (by decide) rfl (Nat.le_of_ble_eq_true rfl) (fun p e s m below meth c res X hN hr hlk => ?_)
  show GX6_name p l e s m _ below meth c D ca ad σ res 0 [(0, .ref (ad 0)), (1, .int (oi x1)), (2, .int (oi x2))] [] σ (f_X6_name x1 x2 σ)
  unfold f_X6_name
  refine q_iload_n X dX6_name_0 2 rfl ?_
  refine q_iconst X dX6_name_1 ?_
  refine q_callIp X NCok hN Aw_new (c_X6_isIn hx2 (by decide)) (rn_S X (va_cwS 2 X.2.2.2.2.1 (tbG_good _ (tbG_S mw_370 mw_328 mw_1 mw_329)) rfl rfl rfl hd_X6_isIn ⟨by decide, by decide⟩) rfl rfl (Nat.le_of_ble_eq_true rfl) dX6_name_2) (fun r1 _ h3 => ?_)
  refine q_if_ne X h3 10 dX6_name_5 (by decide) (fun h4 => ?_) (fun h4 => ?_)
  · refine q_iconst X dX6_name_8 ?_
    exact q_iretp X (by decide) hr hlk dX6_name_9
  · refine q_aload_n X dX6_name_10 0 rfl ?_
    refine fg_X6_92 X dX6_name_11 (fun h5 => ?_)
    refine q_if_ne X h5 20 dX6_name_14 (by decide) (fun h6 => ?_) (fun h6 => ?_)
    · refine q_bipush X dX6_name_17 (by decide) ?_
      exact q_iretp X (by decide) hr hlk dX6_name_19
    · refine q_iload_n X dX6_name_20 1 rfl ?_
      refine q_aload_n X dX6_name_21 0 rfl ?_
      refine fg_X6_21 X dX6_name_22 ?_
      refine fg_X6_103 (o := 15) (Or.inl rfl) X dX6_name_25 ?_
      refine fg_X6_107 (o := 15) (Or.inl rfl) X dX6_name_28 (fun h7 => ?_)
      refine q_callIp X NCok hN Aw_new (c_X6_isIn hx1 h7) (rn_S X (va_cwS 2 X.2.2.2.2.1 (tbG_good _ (tbG_S mw_370 mw_328 mw_1 mw_329)) rfl rfl rfl hd_X6_isIn ⟨by decide, by decide⟩) rfl rfl (Nat.le_of_ble_eq_true rfl) dX6_name_31) (fun r8 _ h10 => ?_)
      refine q_if_ne X h10 39 dX6_name_34 (by decide) (fun h11 => ?_) (fun h11 => ?_)
      · refine q_iconst X dX6_name_37 ?_
        exact q_iretp X (by decide) hr hlk dX6_name_38
      · refine q_aload_n X dX6_name_39 0 rfl ?_
        refine fg_X6_21 X dX6_name_40 ?_
        refine fg_X6_103 (o := 15) (Or.inl rfl) X dX6_name_43 ?_
        refine fg_X6_112 (o := 15) (Or.inl rfl) X dX6_name_46 ?_
        refine q_iload_n X dX6_name_49 1 rfl ?_
        refine q_iald X (hF12 (o := 15) (Or.inl rfl)) (by decide) dX6_name_50 (fun h12 => ?_)
        refine q_istore_n X [(3, .int (oi (σ.1 27 (Int.toNat x1)))), (0, .ref (ad 0)), (1, .int (oi x1)), (2, .int (oi x2))] dX6_name_51 (by decide) rfl ?_
        refine q_aload_n X dX6_name_52 1 rfl ?_
        refine fg_X6_21 X dX6_name_53 ?_
        refine fg_X6_103 (o := 15) (Or.inl rfl) X dX6_name_56 ?_
        refine fg_X6_115 (o := 15) (Or.inl rfl) X dX6_name_59 ?_
        refine q_iload_n X dX6_name_62 2 rfl ?_
        refine q_iald X (hF13 (o := 15) (Or.inl rfl)) (by decide) dX6_name_63 (fun h13 => ?_)
        refine q_istore X [(4, .int (oi (σ.1 28 (Int.toNat x1)))), (3, .int (oi (σ.1 27 (Int.toNat x1)))), (0, .ref (ad 0)), (1, .int (oi x1)), (2, .int (oi x2))] dX6_name_64 (by decide) rfl ?_
        refine q_iload_n X dX6_name_66 4 rfl ?_
        refine q_ite (fun h14 => ?_) (fun h14 => ?_)
        · refine q_tswIn X hx2 0 29 96 h14 dX6_name_67 (by decide) rfl (by decide) ?_
          refine q_iload_n X dX6_name_96 1 rfl ?_
          exact q_iretp X h12 hr hlk dX6_name_97
        · refine q_ite (fun h15 => ?_) (fun h15 => ?_)
          · refine q_tswIn X hx2 1 31 98 h15 dX6_name_67 (by decide) rfl (by decide) ?_
            refine q_aload_n X dX6_name_98 2 rfl ?_
            refine fg_X6_10 X dX6_name_99 ?_
            refine fg_X6_118 X dX6_name_102 ?_
            refine q_iload_n X dX6_name_105 1 rfl ?_
            refine q_iald X hC10 (by decide) dX6_name_106 (fun h16 => ?_)
            exact q_iretp X h16 hr hlk dX6_name_107
          · refine q_ite (fun h17 => ?_) (fun h17 => ?_)
            · refine q_tswIn X hx2 2 41 108 h17 dX6_name_67 (by decide) rfl (by decide) ?_
              refine q_aload_n X dX6_name_108 2 rfl ?_
              refine fg_X6_10 X dX6_name_109 ?_
              refine fg_X6_121 X dX6_name_112 ?_
              refine q_iload_n X dX6_name_115 1 rfl ?_
              refine q_iald X hC8 (by decide) dX6_name_116 (fun h18 => ?_)
              refine q_iconst X dX6_name_117 ?_
              refine q_icmp_ne X h18 (by decide) 125 dX6_name_118 (by decide) (fun h19 => ?_) (fun h19 => ?_)
              · refine q_iconst X dX6_name_121 ?_
                refine q_goto X 126 dX6_name_122 (by decide) ?_
                exact q_iretp X (by decide) hr hlk dX6_name_126
              · refine q_iconst X dX6_name_125 ?_
                exact q_iretp X (by decide) hr hlk dX6_name_126
            · refine q_ite (fun h20 => ?_) (fun h20 => ?_)
              · refine q_tswIn X hx2 3 60 127 h20 dX6_name_67 (by decide) rfl (by decide) ?_
                refine q_iload X dX6_name_127 0 rfl ?_
                exact q_iretp X h13 hr hlk dX6_name_129
              · refine q_tswOut X hx2 130 (by omega) dX6_name_67 (by decide) ?_
                refine q_aload_n X dX6_name_130 2 rfl ?_
                refine fg_X6_21 X dX6_name_131 ?_
                refine fg_X6_124 (o := 15) (Or.inl rfl) X dX6_name_134 ?_
                refine q_iload X dX6_name_137 0 rfl ?_
                refine q_zald X (hF7 (o := 15) (Or.inl rfl)) (by decide) dX6_name_139 (fun h21 => ?_)
                refine q_if_eq X h21 147 dX6_name_140 (by decide) (fun h22 => ?_) (fun h22 => ?_)
                · refine q_iconst X dX6_name_147 ?_
                  exact q_iretp X (by decide) hr hlk dX6_name_148
                · refine q_iconst X dX6_name_143 ?_
                  refine q_goto X 148 dX6_name_144 (by decide) ?_
                  exact q_iretp X (by decide) hr hlk dX6_name_148

/-! SiteObjects.node(II)I -/
abbrev GX6_node (p : Program) (l : Launch) (e : Env) (s : State) (m : MethodId) (args : Array Value) (below : List Frame) (meth : Method) (c : Code) (D : va_G) (ca : Nat → ClassId) (ad : Nat → Nat) (σ : Mm) (res : Int) : Nat → List (Nat × Value) → List Value → Mm → Option (Int) → Prop := G p l e { frames := 1, cells := 0, slots := 0, locals := 22 } s m args below meth c (MQ below (QcI D vcl ca ad shC s.heap.size (res, σ)) args s 0 0 (Aw ad shC.length s.heap.size)) 3 D vcl ca ad shC (Aw ad shC.length s.heap.size) res
def f_X6_node (x1 : Int) (x2 : Int) (σ : Mm) : Option (Int) :=
  (f_X6_isIn x2 5 σ).bind (fun r1 => (if r1 = 0 then some (-1) else (if (σ.1 0 5) = 0 then some (-2) else (f_X6_isIn x1 (σ.1 24 2) σ).bind (fun r8 => (if r8 = 0 then some (-1) else (if x2 = 0 then ck ((0 : Int) ≤ x1 ∧ x1 < ((80 : Nat) : Int)) (some (σ.1 25 (Int.toNat x1))) else (if x2 = 1 then (f_X5_firstNumber 15 x1 σ).bind (fun r15 => some r15) else (if x2 = 2 then (f_X5_secondNumber 15 x1 σ).bind (fun r19 => some r19) else (if x2 = 3 then ck ((0 : Int) ≤ x1 ∧ x1 < ((80 : Nat) : Int)) ((if (σ.1 22 (Int.toNat x1)) = 0 then some 0 else some 1)) else ck ((0 : Int) ≤ x1 ∧ x1 < ((80 : Nat) : Int)) (some (σ.1 20 (Int.toNat x1))))))))))))
theorem hd_X6_node : yX6_node.cls = RX6 ∧ yX6_node.cls ≠ "java/lang/invoke/MethodHandle" ∧ yX6_node.cls ≠ "java/lang/invoke/VarHandle" ∧ (parseMethodDescriptor yX6_node.desc).map (fun d => d.parameters.length) = some 2 := by decide +kernel
set_option maxRecDepth 100000 in
set_option maxHeartbeats 4000000 in
theorem c_X6_node {l : Launch} {D : va_G} {ca : Nat → ClassId} {ad : Nat → Nat} {x1 : Int} {x2 : Int} (hx1 : inR x1) (hx2 : inR x2) {σ : Mm} : CtI l D vcl ca ad shC NC yX6_node (Cond.code yX6_node cX6_node 3 (some .int) :: tbG) { frames := 1, cells := 0, slots := 0, locals := 22 } [.ref (ad 0), .int (oi x1), .int (oi x2)] σ ((f_X6_node x1 x2 σ).map (fun r => (r, σ))) := by
  refine ct_Ip RX6 rfl (by decide) rfl (Nat.le_of_ble_eq_true rfl) (fun p e s m below meth c res X hN hr hlk => ?_)
  show GX6_node p l e s m _ below meth c D ca ad σ res 0 [(0, .ref (ad 0)), (1, .int (oi x1)), (2, .int (oi x2))] [] σ (f_X6_node x1 x2 σ)
  unfold f_X6_node
  refine q_iload_n X dX6_node_0 2 rfl ?_
  refine q_iconst X dX6_node_1 ?_
  refine q_callIp X NCok hN Aw_new (c_X6_isIn hx2 (by decide)) (rn_S X (va_cwS 2 X.2.2.2.2.1 (tbG_good _ (tbG_S mw_370 mw_328 mw_1 mw_329)) rfl rfl rfl hd_X6_isIn ⟨by decide, by decide⟩) rfl rfl (Nat.le_of_ble_eq_true rfl) dX6_node_2) (fun r1 _ h3 => ?_)
  refine q_if_ne X h3 10 dX6_node_5 (by decide) (fun h4 => ?_) (fun h4 => ?_)
  · refine q_iconst X dX6_node_8 ?_
    exact q_iretp X (by decide) hr hlk dX6_node_9
  · refine q_aload_n X dX6_node_10 0 rfl ?_
    refine fg_X6_92 X dX6_node_11 (fun h5 => ?_)
    refine q_if_ne X h5 20 dX6_node_14 (by decide) (fun h6 => ?_) (fun h6 => ?_)
    · refine q_bipush X dX6_node_17 (by decide) ?_
      exact q_iretp X (by decide) hr hlk dX6_node_19
    · refine q_iload_n X dX6_node_20 1 rfl ?_
      refine q_aload_n X dX6_node_21 0 rfl ?_
      refine fg_X6_21 X dX6_node_22 ?_
      refine fg_X6_103 (o := 15) (Or.inl rfl) X dX6_node_25 ?_
      refine fg_X6_128 (o := 15) (Or.inl rfl) X dX6_node_28 (fun h7 => ?_)
      refine q_callIp X NCok hN Aw_new (c_X6_isIn hx1 h7) (rn_S X (va_cwS 2 X.2.2.2.2.1 (tbG_good _ (tbG_S mw_370 mw_328 mw_1 mw_329)) rfl rfl rfl hd_X6_isIn ⟨by decide, by decide⟩) rfl rfl (Nat.le_of_ble_eq_true rfl) dX6_node_31) (fun r8 _ h10 => ?_)
      refine q_if_ne X h10 39 dX6_node_34 (by decide) (fun h11 => ?_) (fun h11 => ?_)
      · refine q_iconst X dX6_node_37 ?_
        exact q_iretp X (by decide) hr hlk dX6_node_38
      · refine q_iload_n X dX6_node_39 2 rfl ?_
        refine q_ite (fun h12 => ?_) (fun h12 => ?_)
        · refine q_tswIn X hx2 0 32 72 h12 dX6_node_40 (by decide) rfl (by decide) ?_
          refine q_aload_n X dX6_node_72 0 rfl ?_
          refine fg_X6_21 X dX6_node_73 ?_
          refine fg_X6_103 (o := 15) (Or.inl rfl) X dX6_node_76 ?_
          refine fg_X6_131 (o := 15) (Or.inl rfl) X dX6_node_79 ?_
          refine q_iload_n X dX6_node_82 1 rfl ?_
          refine q_iald X (hF10 (o := 15) (Or.inl rfl)) (by decide) dX6_node_83 (fun h13 => ?_)
          exact q_iretp X h13 hr hlk dX6_node_84
        · refine q_ite (fun h14 => ?_) (fun h14 => ?_)
          · refine q_tswIn X hx2 1 45 85 h14 dX6_node_40 (by decide) rfl (by decide) ?_
            refine q_aload_n X dX6_node_85 0 rfl ?_
            refine fg_X6_21 X dX6_node_86 ?_
            refine fg_X6_103 (o := 15) (Or.inl rfl) X dX6_node_89 ?_
            refine q_iload_n X dX6_node_92 1 rfl ?_
            refine q_callIp X NCok hN Aw_new (c_X5_firstNumber (Or.inl rfl) hx1) (rn_V X (cwV 1 X.2.2.2.2.1 (tbG_good _ (tbG_V mw_562 mw_563 mw_564 mw_5 mw_565)) rfl rfl rfl hd_X5_firstNumber ⟨by decide, by decide⟩) (hO9 (Or.inl rfl)) rfl rfl rfl (Nat.le_of_ble_eq_true rfl) dX6_node_93) (fun r15 _ h17 => ?_)
            exact q_iretp X h17 hr hlk dX6_node_96
          · refine q_ite (fun h18 => ?_) (fun h18 => ?_)
            · refine q_tswIn X hx2 2 57 97 h18 dX6_node_40 (by decide) rfl (by decide) ?_
              refine q_aload_n X dX6_node_97 0 rfl ?_
              refine fg_X6_21 X dX6_node_98 ?_
              refine fg_X6_103 (o := 15) (Or.inl rfl) X dX6_node_101 ?_
              refine q_iload_n X dX6_node_104 1 rfl ?_
              refine q_callIp X NCok hN Aw_new (c_X5_secondNumber (Or.inl rfl) hx1) (rn_V X (cwV 1 X.2.2.2.2.1 (tbG_good _ (tbG_V mw_566 mw_567 mw_568 mw_5 mw_569)) rfl rfl rfl hd_X5_secondNumber ⟨by decide, by decide⟩) (hO9 (Or.inl rfl)) rfl rfl rfl (Nat.le_of_ble_eq_true rfl) dX6_node_105) (fun r19 _ h21 => ?_)
              exact q_iretp X h21 hr hlk dX6_node_108
            · refine q_ite (fun h22 => ?_) (fun h22 => ?_)
              · refine q_tswIn X hx2 3 69 109 h22 dX6_node_40 (by decide) rfl (by decide) ?_
                refine q_aload_n X dX6_node_109 0 rfl ?_
                refine fg_X6_21 X dX6_node_110 ?_
                refine fg_X6_124 (o := 15) (Or.inl rfl) X dX6_node_113 ?_
                refine q_iload_n X dX6_node_116 1 rfl ?_
                refine q_zald X (hF7 (o := 15) (Or.inl rfl)) (by decide) dX6_node_117 (fun h23 => ?_)
                refine q_if_eq X h23 125 dX6_node_118 (by decide) (fun h24 => ?_) (fun h24 => ?_)
                · refine q_iconst X dX6_node_125 ?_
                  exact q_iretp X (by decide) hr hlk dX6_node_126
                · refine q_iconst X dX6_node_121 ?_
                  refine q_goto X 126 dX6_node_122 (by decide) ?_
                  exact q_iretp X (by decide) hr hlk dX6_node_126
              · refine q_tswOut X hx2 127 (by omega) dX6_node_40 (by decide) ?_
                refine q_aload_n X dX6_node_127 0 rfl ?_
                refine fg_X6_21 X dX6_node_128 ?_
                refine fg_X6_140 (o := 15) (Or.inl rfl) X dX6_node_131 ?_
                refine q_iload_n X dX6_node_134 1 rfl ?_
                refine q_iald X (hF5 (o := 15) (Or.inl rfl)) (by decide) dX6_node_135 (fun h25 => ?_)
                exact q_iretp X h25 hr hlk dX6_node_136

/-! SiteObjects.held(II)J -/
abbrev GX6_held (p : Program) (l : Launch) (e : Env) (s : State) (m : MethodId) (args : Array Value) (below : List Frame) (meth : Method) (c : Code) (D : va_G) (ca : Nat → ClassId) (ad : Nat → Nat) (σ : Mm) (res : Int64) : Nat → List (Nat × Value) → List Value → Mm → Option (Int64) → Prop := G p l e { frames := 1, cells := 0, slots := 0, locals := 22 } s m args below meth c (MQ below (QcL D vcl ca ad shC s.heap.size (res, σ)) args s 0 0 (Aw ad shC.length s.heap.size)) 3 D vcl ca ad shC (Aw ad shC.length s.heap.size) res
def f_X6_held (x1 : Int) (x2 : Int) (σ : Mm) : Option (Int64) :=
  (f_X6_isIn x2 8 σ).bind (fun r1 => (if r1 = 0 then some (-1) else (if (σ.1 0 5) = 0 then some (-2) else (f_X6_isIn x1 (σ.1 24 2) σ).bind (fun r8 => (if r8 = 0 then some (-1) else (f_X0_setOf 15 x1 x2 σ).bind (fun r12 => some r12))))))
theorem hd_X6_held : yX6_held.cls = RX6 ∧ yX6_held.cls ≠ "java/lang/invoke/MethodHandle" ∧ yX6_held.cls ≠ "java/lang/invoke/VarHandle" ∧ (parseMethodDescriptor yX6_held.desc).map (fun d => d.parameters.length) = some 2 := by decide +kernel
set_option maxRecDepth 100000 in
set_option maxHeartbeats 4000000 in
theorem c_X6_held {l : Launch} {D : va_G} {ca : Nat → ClassId} {ad : Nat → Nat} {x1 : Int} {x2 : Int} (hx1 : inR x1) (hx2 : inR x2) {σ : Mm} : CtL l D vcl ca ad shC NC yX6_held (Cond.code yX6_held cX6_held 3 (some .long) :: tbG) { frames := 1, cells := 0, slots := 0, locals := 22 } [.ref (ad 0), .int (oi x1), .int (oi x2)] σ ((f_X6_held x1 x2 σ).map (fun r => (r, σ))) := by
  refine ct_Lp RX6 rfl (by decide) rfl (Nat.le_of_ble_eq_true rfl) (fun p e s m below meth c res X hN hr hlk => ?_)
  show GX6_held p l e s m _ below meth c D ca ad σ res 0 [(0, .ref (ad 0)), (1, .int (oi x1)), (2, .int (oi x2))] [] σ (f_X6_held x1 x2 σ)
  unfold f_X6_held
  refine q_iload_n X dX6_held_0 2 rfl ?_
  refine q_bipush X dX6_held_1 (by decide) ?_
  refine q_callIp X NCok hN Aw_new (c_X6_isIn hx2 (by decide)) (rn_S X (va_cwS 2 X.2.2.2.2.1 (tbG_good _ (tbG_S mw_370 mw_328 mw_1 mw_329)) rfl rfl rfl hd_X6_isIn ⟨by decide, by decide⟩) rfl rfl (Nat.le_of_ble_eq_true rfl) dX6_held_3) (fun r1 _ h3 => ?_)
  refine q_if_ne X h3 13 dX6_held_6 (by decide) (fun h4 => ?_) (fun h4 => ?_)
  · refine q_ldc2 X (-1) dX6_held_9 (List.mem_cons_of_mem _ mw_574) ?_
    exact q_lretp X hr hlk dX6_held_12
  · refine q_aload_n X dX6_held_13 0 rfl ?_
    refine fg_X6_92 X dX6_held_14 (fun h5 => ?_)
    refine q_if_ne X h5 24 dX6_held_17 (by decide) (fun h6 => ?_) (fun h6 => ?_)
    · refine q_ldc2 X (-2) dX6_held_20 (List.mem_cons_of_mem _ mw_575) ?_
      exact q_lretp X hr hlk dX6_held_23
    · refine q_iload_n X dX6_held_24 1 rfl ?_
      refine q_aload_n X dX6_held_25 0 rfl ?_
      refine fg_X6_21 X dX6_held_26 ?_
      refine fg_X6_103 (o := 15) (Or.inl rfl) X dX6_held_29 ?_
      refine fg_X6_128 (o := 15) (Or.inl rfl) X dX6_held_32 (fun h7 => ?_)
      refine q_callIp X NCok hN Aw_new (c_X6_isIn hx1 h7) (rn_S X (va_cwS 2 X.2.2.2.2.1 (tbG_good _ (tbG_S mw_370 mw_328 mw_1 mw_329)) rfl rfl rfl hd_X6_isIn ⟨by decide, by decide⟩) rfl rfl (Nat.le_of_ble_eq_true rfl) dX6_held_35) (fun r8 _ h10 => ?_)
      refine q_if_eq X h10 53 dX6_held_38 (by decide) (fun h11 => ?_) (fun h11 => ?_)
      · refine q_ldc2 X (-1) dX6_held_53 (List.mem_cons_of_mem _ mw_574) ?_
        exact q_lretp X hr hlk dX6_held_56
      · refine q_aload_n X dX6_held_41 0 rfl ?_
        refine fg_X6_21 X dX6_held_42 ?_
        refine q_iload_n X dX6_held_45 1 rfl ?_
        refine q_iload_n X dX6_held_46 2 rfl ?_
        refine q_callLp X NCok hN Aw_new (c_X0_setOf (Or.inl rfl) hx1 hx2) (rn_V X (cwV 2 X.2.2.2.2.1 (tbG_good _ (tbG_V mw_576 mw_458 mw_459 mw_4 mw_460)) rfl rfl rfl hd_X0_setOf ⟨by decide, by decide⟩) (hO0 (Or.inl rfl)) rfl rfl rfl (Nat.le_of_ble_eq_true rfl) dX6_held_47) (fun r12 _ => ?_)
        refine q_goto X 56 dX6_held_50 (by decide) ?_
        exact q_lretp X hr hlk dX6_held_56

/-! SiteObjects.inside(II)J -/
abbrev GX6_inside (p : Program) (l : Launch) (e : Env) (s : State) (m : MethodId) (args : Array Value) (below : List Frame) (meth : Method) (c : Code) (D : va_G) (ca : Nat → ClassId) (ad : Nat → Nat) (σ : Mm) (res : Int64) : Nat → List (Nat × Value) → List Value → Mm → Option (Int64) → Prop := G p l e { frames := 1, cells := 0, slots := 0, locals := 22 } s m args below meth c (MQ below (QcL D vcl ca ad shC s.heap.size (res, σ)) args s 0 0 (Aw ad shC.length s.heap.size)) 3 D vcl ca ad shC (Aw ad shC.length s.heap.size) res
def f_X6_inside (x1 : Int) (x2 : Int) (σ : Mm) : Option (Int64) :=
  (f_X6_isIn x2 5 σ).bind (fun r1 => (if r1 = 0 then some (-1) else (if (σ.1 0 5) = 0 then some (-2) else (f_X6_isIn x1 (σ.1 24 3) σ).bind (fun r8 => (if r8 = 0 then some (-1) else (f_X0_insideOf 15 x1 x2 σ).bind (fun r12 => some r12))))))
theorem hd_X6_inside : yX6_inside.cls = RX6 ∧ yX6_inside.cls ≠ "java/lang/invoke/MethodHandle" ∧ yX6_inside.cls ≠ "java/lang/invoke/VarHandle" ∧ (parseMethodDescriptor yX6_inside.desc).map (fun d => d.parameters.length) = some 2 := by decide +kernel
set_option maxRecDepth 100000 in
set_option maxHeartbeats 4000000 in
theorem c_X6_inside {l : Launch} {D : va_G} {ca : Nat → ClassId} {ad : Nat → Nat} {x1 : Int} {x2 : Int} (hx1 : inR x1) (hx2 : inR x2) {σ : Mm} : CtL l D vcl ca ad shC NC yX6_inside (Cond.code yX6_inside cX6_inside 3 (some .long) :: tbG) { frames := 1, cells := 0, slots := 0, locals := 22 } [.ref (ad 0), .int (oi x1), .int (oi x2)] σ ((f_X6_inside x1 x2 σ).map (fun r => (r, σ))) := by
  refine ct_Lp RX6 rfl (by decide) rfl (Nat.le_of_ble_eq_true rfl) (fun p e s m below meth c res X hN hr hlk => ?_)
  show GX6_inside p l e s m _ below meth c D ca ad σ res 0 [(0, .ref (ad 0)), (1, .int (oi x1)), (2, .int (oi x2))] [] σ (f_X6_inside x1 x2 σ)
  unfold f_X6_inside
  refine q_iload_n X dX6_inside_0 2 rfl ?_
  refine q_iconst X dX6_inside_1 ?_
  refine q_callIp X NCok hN Aw_new (c_X6_isIn hx2 (by decide)) (rn_S X (va_cwS 2 X.2.2.2.2.1 (tbG_good _ (tbG_S mw_370 mw_328 mw_1 mw_329)) rfl rfl rfl hd_X6_isIn ⟨by decide, by decide⟩) rfl rfl (Nat.le_of_ble_eq_true rfl) dX6_inside_2) (fun r1 _ h3 => ?_)
  refine q_if_ne X h3 12 dX6_inside_5 (by decide) (fun h4 => ?_) (fun h4 => ?_)
  · refine q_ldc2 X (-1) dX6_inside_8 (List.mem_cons_of_mem _ mw_574) ?_
    exact q_lretp X hr hlk dX6_inside_11
  · refine q_aload_n X dX6_inside_12 0 rfl ?_
    refine fg_X6_92 X dX6_inside_13 (fun h5 => ?_)
    refine q_if_ne X h5 23 dX6_inside_16 (by decide) (fun h6 => ?_) (fun h6 => ?_)
    · refine q_ldc2 X (-2) dX6_inside_19 (List.mem_cons_of_mem _ mw_575) ?_
      exact q_lretp X hr hlk dX6_inside_22
    · refine q_iload_n X dX6_inside_23 1 rfl ?_
      refine q_aload_n X dX6_inside_24 0 rfl ?_
      refine fg_X6_21 X dX6_inside_25 ?_
      refine fg_X6_103 (o := 15) (Or.inl rfl) X dX6_inside_28 ?_
      refine fg_X6_107 (o := 15) (Or.inl rfl) X dX6_inside_31 (fun h7 => ?_)
      refine q_callIp X NCok hN Aw_new (c_X6_isIn hx1 h7) (rn_S X (va_cwS 2 X.2.2.2.2.1 (tbG_good _ (tbG_S mw_370 mw_328 mw_1 mw_329)) rfl rfl rfl hd_X6_isIn ⟨by decide, by decide⟩) rfl rfl (Nat.le_of_ble_eq_true rfl) dX6_inside_34) (fun r8 _ h10 => ?_)
      refine q_if_eq X h10 52 dX6_inside_37 (by decide) (fun h11 => ?_) (fun h11 => ?_)
      · refine q_ldc2 X (-1) dX6_inside_52 (List.mem_cons_of_mem _ mw_574) ?_
        exact q_lretp X hr hlk dX6_inside_55
      · refine q_aload_n X dX6_inside_40 0 rfl ?_
        refine fg_X6_21 X dX6_inside_41 ?_
        refine q_iload_n X dX6_inside_44 1 rfl ?_
        refine q_iload_n X dX6_inside_45 2 rfl ?_
        refine q_callLp X NCok hN Aw_new (c_X0_insideOf (Or.inl rfl) hx1 hx2) (rn_V X (cwV 2 X.2.2.2.2.1 (tbG_good _ (tbG_V mw_581 mw_466 mw_467 mw_4 mw_468)) rfl rfl rfl hd_X0_insideOf ⟨by decide, by decide⟩) (hO0 (Or.inl rfl)) rfl rfl rfl (Nat.le_of_ble_eq_true rfl) dX6_inside_46) (fun r12 _ => ?_)
        refine q_goto X 55 dX6_inside_49 (by decide) ?_
        exact q_lretp X hr hlk dX6_inside_55

/-! SiteObjects.global(I)J -/
abbrev GX6_global (p : Program) (l : Launch) (e : Env) (s : State) (m : MethodId) (args : Array Value) (below : List Frame) (meth : Method) (c : Code) (D : va_G) (ca : Nat → ClassId) (ad : Nat → Nat) (σ : Mm) (res : Int64) : Nat → List (Nat × Value) → List Value → Mm → Option (Int64) → Prop := G p l e { frames := 1, cells := 0, slots := 0, locals := 21 } s m args below meth c (MQ below (QcL D vcl ca ad shC s.heap.size (res, σ)) args s 0 0 (Aw ad shC.length s.heap.size)) 2 D vcl ca ad shC (Aw ad shC.length s.heap.size) res
def f_X6_global (x1 : Int) (σ : Mm) : Option (Int64) :=
  (f_X6_isIn x1 4 σ).bind (fun r1 => (if r1 = 0 then some (-1) else (if (σ.1 0 5) = 0 then some (-2) else ck ((0 : Int) ≤ x1 ∧ x1 < ((4 : Nat) : Int)) (some (σ.2 18 (Int.toNat x1))))))
theorem hd_X6_global : yX6_global.cls = RX6 ∧ yX6_global.cls ≠ "java/lang/invoke/MethodHandle" ∧ yX6_global.cls ≠ "java/lang/invoke/VarHandle" ∧ (parseMethodDescriptor yX6_global.desc).map (fun d => d.parameters.length) = some 1 := by decide +kernel
set_option maxRecDepth 100000 in
set_option maxHeartbeats 4000000 in
theorem c_X6_global {l : Launch} {D : va_G} {ca : Nat → ClassId} {ad : Nat → Nat} {x1 : Int} (hx1 : inR x1) {σ : Mm} : CtL l D vcl ca ad shC NC yX6_global (Cond.code yX6_global cX6_global 2 (some .long) :: tbG) { frames := 1, cells := 0, slots := 0, locals := 21 } [.ref (ad 0), .int (oi x1)] σ ((f_X6_global x1 σ).map (fun r => (r, σ))) := by
  refine ct_Lp RX6 rfl (by decide) rfl (Nat.le_of_ble_eq_true rfl) (fun p e s m below meth c res X hN hr hlk => ?_)
  show GX6_global p l e s m _ below meth c D ca ad σ res 0 [(0, .ref (ad 0)), (1, .int (oi x1))] [] σ (f_X6_global x1 σ)
  unfold f_X6_global
  refine q_iload_n X dX6_global_0 1 rfl ?_
  refine q_iconst X dX6_global_1 ?_
  refine q_callIp X NCok hN Aw_new (c_X6_isIn hx1 (by decide)) (rn_S X (va_cwS 2 X.2.2.2.2.1 (tbG_good _ (tbG_S mw_370 mw_328 mw_1 mw_329)) rfl rfl rfl hd_X6_isIn ⟨by decide, by decide⟩) rfl rfl (Nat.le_of_ble_eq_true rfl) dX6_global_2) (fun r1 _ h3 => ?_)
  refine q_if_ne X h3 12 dX6_global_5 (by decide) (fun h4 => ?_) (fun h4 => ?_)
  · refine q_ldc2 X (-1) dX6_global_8 (List.mem_cons_of_mem _ mw_574) ?_
    exact q_lretp X hr hlk dX6_global_11
  · refine q_aload_n X dX6_global_12 0 rfl ?_
    refine fg_X6_92 X dX6_global_13 (fun h5 => ?_)
    refine q_if_eq X h5 31 dX6_global_16 (by decide) (fun h6 => ?_) (fun h6 => ?_)
    · refine q_ldc2 X (-2) dX6_global_31 (List.mem_cons_of_mem _ mw_575) ?_
      exact q_lretp X hr hlk dX6_global_34
    · refine q_aload_n X dX6_global_19 0 rfl ?_
      refine fg_X6_21 X dX6_global_20 ?_
      refine fg_X6_154 (o := 15) (Or.inl rfl) X dX6_global_23 ?_
      refine q_iload_n X dX6_global_26 1 rfl ?_
      refine q_lald X (hF3 (o := 15) (Or.inl rfl)) (by decide) dX6_global_27 ?_
      refine q_goto X 34 dX6_global_28 (by decide) ?_
      exact q_lretp X hr hlk dX6_global_34

/-! SiteObjects.leads(III)I -/
abbrev GX6_leads (p : Program) (l : Launch) (e : Env) (s : State) (m : MethodId) (args : Array Value) (below : List Frame) (meth : Method) (c : Code) (D : va_G) (ca : Nat → ClassId) (ad : Nat → Nat) (res : Int × Mm) : Nat → List (Nat × Value) → List Value → Mm → Option (Int × Mm) → Prop := G p l e { frames := 4, cells := 0, slots := 0, locals := 97 } s m args below meth c (MQ below (QcI D vcl ca ad shC s.heap.size res) args s 0 0 (Aw ad shC.length s.heap.size)) 4 D vcl ca ad shC (Aw ad shC.length s.heap.size) res
def f_X6_leads (x1 : Int) (x2 : Int) (x3 : Int) (σ : Mm) : Option (Int × Mm) :=
  (f_X3_isLeading x2 σ).bind (fun r1 => (if r1 = 0 then some ((-1), σ) else (if (σ.1 0 5) = 0 then some ((-2), σ) else (f_X6_isIn x1 (σ.1 24 2) σ).bind (fun r8 => (if r8 = 0 then some ((-1), σ) else ck ((0 : Int) ≤ x2 ∧ x2 < ((90 : Nat) : Int)) (ck ((0 : Int) ≤ x1 ∧ x1 < ((80 : Nat) : Int)) ((if (σ.1 13 (Int.toNat x2)) = (σ.1 25 (Int.toNat x1)) then (f_X0_reachedAt 15 x1 x2 x3 σ).bind (fun r15 => some (r15.1, r15.2)) else some ((-1), σ)))))))))
theorem hd_X6_leads : yX6_leads.cls = RX6 ∧ yX6_leads.cls ≠ "java/lang/invoke/MethodHandle" ∧ yX6_leads.cls ≠ "java/lang/invoke/VarHandle" ∧ (parseMethodDescriptor yX6_leads.desc).map (fun d => d.parameters.length) = some 3 := by decide +kernel
set_option maxRecDepth 100000 in
set_option maxHeartbeats 4000000 in
theorem c_X6_leads {l : Launch} {D : va_G} {ca : Nat → ClassId} {ad : Nat → Nat} {x1 : Int} {x2 : Int} {x3 : Int} (hx1 : inR x1) (hx2 : inR x2) (hx3 : inR x3) {σ : Mm} : CtI l D vcl ca ad shC NC yX6_leads (Cond.code yX6_leads cX6_leads 4 (some .int) :: tbG) { frames := 4, cells := 0, slots := 0, locals := 97 } [.ref (ad 0), .int (oi x1), .int (oi x2), .int (oi x3)] σ (f_X6_leads x1 x2 x3 σ) := by
  refine ct_I RX6 rfl (by decide) rfl (Nat.le_of_ble_eq_true rfl) (fun p e s m below meth c res X hN hr hlk => ?_)
  show GX6_leads p l e s m _ below meth c D ca ad res 0 [(0, .ref (ad 0)), (1, .int (oi x1)), (2, .int (oi x2)), (3, .int (oi x3))] [] σ (f_X6_leads x1 x2 x3 σ)
  unfold f_X6_leads
  refine q_aload_n X dX6_leads_0 0 rfl ?_
  refine fg_X6_10 X dX6_leads_1 ?_
  refine q_iload_n X dX6_leads_4 2 rfl ?_
  refine q_callIp X NCok hN Aw_new (c_X3_isLeading hx2) (rn_V X (cwV 1 X.2.2.2.2.1 (tbG_good _ (tbG_V mw_590 mw_531 mw_532 mw_2 mw_533)) rfl rfl rfl hd_X3_isLeading ⟨by decide, by decide⟩) hC1 rfl rfl rfl (Nat.le_of_ble_eq_true rfl) dX6_leads_5) (fun r1 _ h3 => ?_)
  refine q_if_ne X h3 13 dX6_leads_8 (by decide) (fun h4 => ?_) (fun h4 => ?_)
  · refine q_iconst X dX6_leads_11 ?_
    exact q_iret X (by decide) hr hlk dX6_leads_12
  · refine q_aload_n X dX6_leads_13 0 rfl ?_
    refine fg_X6_92 X dX6_leads_14 (fun h5 => ?_)
    refine q_if_ne X h5 23 dX6_leads_17 (by decide) (fun h6 => ?_) (fun h6 => ?_)
    · refine q_bipush X dX6_leads_20 (by decide) ?_
      exact q_iret X (by decide) hr hlk dX6_leads_22
    · refine q_iload_n X dX6_leads_23 1 rfl ?_
      refine q_aload_n X dX6_leads_24 0 rfl ?_
      refine fg_X6_21 X dX6_leads_25 ?_
      refine fg_X6_103 (o := 15) (Or.inl rfl) X dX6_leads_28 ?_
      refine fg_X6_128 (o := 15) (Or.inl rfl) X dX6_leads_31 (fun h7 => ?_)
      refine q_callIp X NCok hN Aw_new (c_X6_isIn hx1 h7) (rn_S X (va_cwS 2 X.2.2.2.2.1 (tbG_good _ (tbG_S mw_370 mw_328 mw_1 mw_329)) rfl rfl rfl hd_X6_isIn ⟨by decide, by decide⟩) rfl rfl (Nat.le_of_ble_eq_true rfl) dX6_leads_34) (fun r8 _ h10 => ?_)
      refine q_if_eq X h10 64 dX6_leads_37 (by decide) (fun h11 => ?_) (fun h11 => ?_)
      · refine q_iconst X dX6_leads_64 ?_
        exact q_iret X (by decide) hr hlk dX6_leads_65
      · refine q_aload_n X dX6_leads_40 0 rfl ?_
        refine fg_X6_10 X dX6_leads_41 ?_
        refine fg_X6_161 X dX6_leads_44 ?_
        refine q_iload_n X dX6_leads_47 2 rfl ?_
        refine q_iald X hC13 (by decide) dX6_leads_48 (fun h12 => ?_)
        refine q_aload_n X dX6_leads_49 0 rfl ?_
        refine fg_X6_21 X dX6_leads_50 ?_
        refine fg_X6_103 (o := 15) (Or.inl rfl) X dX6_leads_53 ?_
        refine fg_X6_131 (o := 15) (Or.inl rfl) X dX6_leads_56 ?_
        refine q_iload_n X dX6_leads_59 1 rfl ?_
        refine q_iald X (hF10 (o := 15) (Or.inl rfl)) (by decide) dX6_leads_60 (fun h13 => ?_)
        refine q_icmp_eq X h12 h13 66 dX6_leads_61 (by decide) (fun h14 => ?_) (fun h14 => ?_)
        · refine q_aload_n X dX6_leads_66 0 rfl ?_
          refine fg_X6_21 X dX6_leads_67 ?_
          refine q_iload_n X dX6_leads_70 1 rfl ?_
          refine q_iload_n X dX6_leads_71 2 rfl ?_
          refine q_iload_n X dX6_leads_72 3 rfl ?_
          refine q_callI X NCok hN Aw_new (c_X0_reachedAt (Or.inl rfl) hx1 hx2 hx3) (rn_V X (cwV 3 X.2.2.2.2.1 (tbG_good _ (tbG_V mw_591 mw_592 mw_593 mw_4 mw_594)) rfl rfl rfl hd_X0_reachedAt ⟨by decide, by decide⟩) (hO0 (Or.inl rfl)) rfl rfl rfl (Nat.le_of_ble_eq_true rfl) dX6_leads_73) (fun r15 _ h17 => ?_)
          exact q_iret X h17 hr hlk dX6_leads_76
        · refine q_iconst X dX6_leads_64 ?_
          exact q_iret X (by decide) hr hlk dX6_leads_65

/-! SiteObjects.run(JI)I -/
abbrev GX6_run (p : Program) (l : Launch) (e : Env) (s : State) (m : MethodId) (args : Array Value) (below : List Frame) (meth : Method) (c : Code) (D : va_G) (ca : Nat → ClassId) (ad : Nat → Nat) (res : Int × Mm) : Nat → List (Nat × Value) → List Value → Mm → Option (Int × Mm) → Prop := G p l e { frames := 7, cells := 0, slots := 0, locals := 164 } s m args below meth c (MQ below (QcI D vcl ca ad shC s.heap.size res) args s 0 0 (Aw ad shC.length s.heap.size)) 4 D vcl ca ad shC (Aw ad shC.length s.heap.size) res
def f_X6_run (x1 : Int64) (x3 : Int) (σ : Mm) : Option (Int × Mm) :=
  (if x3 < 1 then some ((-1), σ) else (if x3 ≤ 300 then (if (σ.1 0 5) = 0 then some ((-2), σ) else (f_X4_go ((stI σ 0 6 1).1 0 4) x1 x3 (stI σ 0 6 1)).bind (fun r6 => some (r6.1, r6.2))) else some ((-1), σ)))
theorem hd_X6_run : yX6_run.cls = RX6 ∧ yX6_run.cls ≠ "java/lang/invoke/MethodHandle" ∧ yX6_run.cls ≠ "java/lang/invoke/VarHandle" ∧ (parseMethodDescriptor yX6_run.desc).map (fun d => d.parameters.length) = some 2 := by decide +kernel
set_option maxRecDepth 100000 in
set_option maxHeartbeats 4000000 in
theorem c_X6_run {l : Launch} {D : va_G} {ca : Nat → ClassId} {ad : Nat → Nat} {x1 : Int64} {x3 : Int} (hx3 : inR x3) {σ : Mm} : CtI l D vcl ca ad shC NC yX6_run (Cond.code yX6_run cX6_run 4 (some .int) :: tbG) { frames := 7, cells := 0, slots := 0, locals := 164 } [.ref (ad 0), .long x1, .int (oi x3)] σ (f_X6_run x1 x3 σ) := by
  refine ct_I RX6 rfl (by decide) rfl (Nat.le_of_ble_eq_true rfl) (fun p e s m below meth c res X hN hr hlk => ?_)
  show GX6_run p l e s m _ below meth c D ca ad res 0 [(0, .ref (ad 0)), (1, .long x1), (3, .int (oi x3))] [] σ (f_X6_run x1 x3 σ)
  unfold f_X6_run
  refine q_iload_n X dX6_run_0 2 rfl ?_
  refine q_iconst X dX6_run_1 ?_
  refine q_icmp_lt X hx3 (by decide) 12 dX6_run_2 (by decide) (fun h1 => ?_) (fun h1 => ?_)
  · refine q_iconst X dX6_run_12 ?_
    exact q_iret X (by decide) hr hlk dX6_run_13
  · refine q_iload_n X dX6_run_5 2 rfl ?_
    refine q_sipush X dX6_run_6 (by decide) ?_
    refine q_icmp_le X hx3 (by decide) 14 dX6_run_9 (by decide) (fun h2 => ?_) (fun h2 => ?_)
    · refine q_aload_n X dX6_run_14 0 rfl ?_
      refine fg_X6_92 X dX6_run_15 (fun h3 => ?_)
      refine q_if_ne X h3 24 dX6_run_18 (by decide) (fun h4 => ?_) (fun h4 => ?_)
      · refine q_bipush X dX6_run_21 (by decide) ?_
        exact q_iret X (by decide) hr hlk dX6_run_23
      · refine q_aload_n X dX6_run_24 0 rfl ?_
        refine q_iconst X dX6_run_25 ?_
        refine fp_X6_96 X (Or.inr rfl) dX6_run_26 ?_
        refine q_aload_n X dX6_run_29 0 rfl ?_
        refine fg_X6_33 X dX6_run_30 ?_
        refine q_aload_n X dX6_run_33 0 rfl ?_
        refine fg_X6_89 X dX6_run_34 (fun h5 => ?_)
        refine q_lload_n X dX6_run_37 1 rfl ?_
        refine q_iload_n X dX6_run_38 2 rfl ?_
        refine q_callI X NCok hN Aw_new (c_X4_go h5 hx3) (rn_V X (cwV 3 X.2.2.2.2.1 (tbG_good _ (tbG_V mw_599 mw_600 mw_601 mw_6 mw_602)) rfl rfl rfl hd_X4_go ⟨by decide, by decide⟩) hC43 rfl rfl rfl (Nat.le_of_ble_eq_true rfl) dX6_run_39) (fun r6 _ h8 => ?_)
        exact q_iret X h8 hr hlk dX6_run_42
    · refine q_iconst X dX6_run_12 ?_
      exact q_iret X (by decide) hr hlk dX6_run_13

/-! SiteObjects.ran(I)I -/
abbrev GX6_ran (p : Program) (l : Launch) (e : Env) (s : State) (m : MethodId) (args : Array Value) (below : List Frame) (meth : Method) (c : Code) (D : va_G) (ca : Nat → ClassId) (ad : Nat → Nat) (σ : Mm) (res : Int) : Nat → List (Nat × Value) → List Value → Mm → Option (Int) → Prop := G p l e { frames := 1, cells := 0, slots := 0, locals := 21 } s m args below meth c (MQ below (QcI D vcl ca ad shC s.heap.size (res, σ)) args s 0 0 (Aw ad shC.length s.heap.size)) 2 D vcl ca ad shC (Aw ad shC.length s.heap.size) res
def f_X6_ran (x1 : Int) (σ : Mm) : Option (Int) :=
  (f_X6_isIn x1 9 σ).bind (fun r1 => (if r1 = 0 then some (-1) else (if (σ.1 0 6) = 0 then some (-9) else ck ((0 : Int) ≤ x1 ∧ x1 < ((9 : Nat) : Int)) (some (σ.1 49 (Int.toNat x1))))))
theorem hd_X6_ran : yX6_ran.cls = RX6 ∧ yX6_ran.cls ≠ "java/lang/invoke/MethodHandle" ∧ yX6_ran.cls ≠ "java/lang/invoke/VarHandle" ∧ (parseMethodDescriptor yX6_ran.desc).map (fun d => d.parameters.length) = some 1 := by decide +kernel
set_option maxRecDepth 100000 in
set_option maxHeartbeats 4000000 in
theorem c_X6_ran {l : Launch} {D : va_G} {ca : Nat → ClassId} {ad : Nat → Nat} {x1 : Int} (hx1 : inR x1) {σ : Mm} : CtI l D vcl ca ad shC NC yX6_ran (Cond.code yX6_ran cX6_ran 2 (some .int) :: tbG) { frames := 1, cells := 0, slots := 0, locals := 21 } [.ref (ad 0), .int (oi x1)] σ ((f_X6_ran x1 σ).map (fun r => (r, σ))) := by
  refine ct_Ip RX6 rfl (by decide) rfl (Nat.le_of_ble_eq_true rfl) (fun p e s m below meth c res X hN hr hlk => ?_)
  show GX6_ran p l e s m _ below meth c D ca ad σ res 0 [(0, .ref (ad 0)), (1, .int (oi x1))] [] σ (f_X6_ran x1 σ)
  unfold f_X6_ran
  refine q_iload_n X dX6_ran_0 1 rfl ?_
  refine q_bipush X dX6_ran_1 (by decide) ?_
  refine q_callIp X NCok hN Aw_new (c_X6_isIn hx1 (by decide)) (rn_S X (va_cwS 2 X.2.2.2.2.1 (tbG_good _ (tbG_S mw_370 mw_328 mw_1 mw_329)) rfl rfl rfl hd_X6_isIn ⟨by decide, by decide⟩) rfl rfl (Nat.le_of_ble_eq_true rfl) dX6_ran_3) (fun r1 _ h3 => ?_)
  refine q_if_ne X h3 11 dX6_ran_6 (by decide) (fun h4 => ?_) (fun h4 => ?_)
  · refine q_iconst X dX6_ran_9 ?_
    exact q_iretp X (by decide) hr hlk dX6_ran_10
  · refine q_aload_n X dX6_ran_11 0 rfl ?_
    refine fg_X6_96 X dX6_ran_12 (fun h5 => ?_)
    refine q_if_eq X h5 30 dX6_ran_15 (by decide) (fun h6 => ?_) (fun h6 => ?_)
    · refine q_bipush X dX6_ran_30 (by decide) ?_
      exact q_iretp X (by decide) hr hlk dX6_ran_32
    · refine q_aload_n X dX6_ran_18 0 rfl ?_
      refine fg_X6_33 X dX6_ran_19 ?_
      refine fg_X6_171 X dX6_ran_22 ?_
      refine q_iload_n X dX6_ran_25 1 rfl ?_
      refine q_iald X hC49 (by decide) dX6_ran_26 (fun h7 => ?_)
      refine q_goto X 32 dX6_ran_27 (by decide) ?_
      exact q_iretp X h7 hr hlk dX6_ran_32

/-! SiteObjects.object(II)I -/
abbrev GX6_object (p : Program) (l : Launch) (e : Env) (s : State) (m : MethodId) (args : Array Value) (below : List Frame) (meth : Method) (c : Code) (D : va_G) (ca : Nat → ClassId) (ad : Nat → Nat) (σ : Mm) (res : Int) : Nat → List (Nat × Value) → List Value → Mm → Option (Int) → Prop := G p l e { frames := 2, cells := 0, slots := 0, locals := 43 } s m args below meth c (MQ below (QcI D vcl ca ad shC s.heap.size (res, σ)) args s 0 0 (Aw ad shC.length s.heap.size)) 3 D vcl ca ad shC (Aw ad shC.length s.heap.size) res
def f_X6_object (x1 : Int) (x2 : Int) (σ : Mm) : Option (Int) :=
  (f_X6_isIn x2 13 σ).bind (fun r1 => (if r1 = 0 then some (-1) else (if (σ.1 0 6) = 0 then some (-1) else (f_X6_isIn x1 (σ.1 50 1) σ).bind (fun r8 => (if r8 = 0 then some (-1) else (if x2 = 0 then ck ((0 : Int) ≤ x1 ∧ x1 < ((300 : Nat) : Int)) (some (σ.1 51 (Int.toNat x1))) else (if x2 = 1 then ck ((0 : Int) ≤ x1 ∧ x1 < ((300 : Nat) : Int)) (some (σ.1 52 (Int.toNat x1))) else (if x2 = 2 then ck ((0 : Int) ≤ x1 ∧ x1 < ((300 : Nat) : Int)) (some (σ.1 53 (Int.toNat x1))) else (if x2 = 3 then (f_X2_classOf x1 σ).bind (fun r19 => some r19) else (if 8 ≤ x2 then ck (inR (x2 - 8)) ((f_X2_placeOf x1 (x2 - 8) σ).bind (fun r24 => some r24)) else ck (inR (x2 - 4)) ((f_X2_fieldOf x1 (x2 - 4) σ).bind (fun r28 => some r28))))))))))))
theorem hd_X6_object : yX6_object.cls = RX6 ∧ yX6_object.cls ≠ "java/lang/invoke/MethodHandle" ∧ yX6_object.cls ≠ "java/lang/invoke/VarHandle" ∧ (parseMethodDescriptor yX6_object.desc).map (fun d => d.parameters.length) = some 2 := by decide +kernel
set_option maxRecDepth 100000 in
set_option maxHeartbeats 4000000 in
theorem c_X6_object {l : Launch} {D : va_G} {ca : Nat → ClassId} {ad : Nat → Nat} {x1 : Int} {x2 : Int} (hx1 : inR x1) (hx2 : inR x2) {σ : Mm} : CtI l D vcl ca ad shC NC yX6_object (Cond.code yX6_object cX6_object 3 (some .int) :: tbG) { frames := 2, cells := 0, slots := 0, locals := 43 } [.ref (ad 0), .int (oi x1), .int (oi x2)] σ ((f_X6_object x1 x2 σ).map (fun r => (r, σ))) := by
  refine ct_Ip RX6 rfl (by decide) rfl (Nat.le_of_ble_eq_true rfl) (fun p e s m below meth c res X hN hr hlk => ?_)
  show GX6_object p l e s m _ below meth c D ca ad σ res 0 [(0, .ref (ad 0)), (1, .int (oi x1)), (2, .int (oi x2))] [] σ (f_X6_object x1 x2 σ)
  unfold f_X6_object
  refine q_iload_n X dX6_object_0 2 rfl ?_
  refine q_bipush X dX6_object_1 (by decide) ?_
  refine q_callIp X NCok hN Aw_new (c_X6_isIn hx2 (by decide)) (rn_S X (va_cwS 2 X.2.2.2.2.1 (tbG_good _ (tbG_S mw_370 mw_328 mw_1 mw_329)) rfl rfl rfl hd_X6_isIn ⟨by decide, by decide⟩) rfl rfl (Nat.le_of_ble_eq_true rfl) dX6_object_3) (fun r1 _ h3 => ?_)
  refine q_if_eq X h3 33 dX6_object_6 (by decide) (fun h4 => ?_) (fun h4 => ?_)
  · refine q_iconst X dX6_object_33 ?_
    exact q_iretp X (by decide) hr hlk dX6_object_34
  · refine q_aload_n X dX6_object_9 0 rfl ?_
    refine fg_X6_96 X dX6_object_10 (fun h5 => ?_)
    refine q_if_eq X h5 33 dX6_object_13 (by decide) (fun h6 => ?_) (fun h6 => ?_)
    · refine q_iconst X dX6_object_33 ?_
      exact q_iretp X (by decide) hr hlk dX6_object_34
    · refine q_iload_n X dX6_object_16 1 rfl ?_
      refine q_aload_n X dX6_object_17 0 rfl ?_
      refine fg_X6_33 X dX6_object_18 ?_
      refine fg_X6_174 X dX6_object_21 ?_
      refine fg_X6_178 X dX6_object_24 (fun h7 => ?_)
      refine q_callIp X NCok hN Aw_new (c_X6_isIn hx1 h7) (rn_S X (va_cwS 2 X.2.2.2.2.1 (tbG_good _ (tbG_S mw_370 mw_328 mw_1 mw_329)) rfl rfl rfl hd_X6_isIn ⟨by decide, by decide⟩) rfl rfl (Nat.le_of_ble_eq_true rfl) dX6_object_27) (fun r8 _ h10 => ?_)
      refine q_if_ne X h10 35 dX6_object_30 (by decide) (fun h11 => ?_) (fun h11 => ?_)
      · refine q_iconst X dX6_object_33 ?_
        exact q_iretp X (by decide) hr hlk dX6_object_34
      · refine q_iload_n X dX6_object_35 2 rfl ?_
        refine q_ite (fun h12 => ?_) (fun h12 => ?_)
        · refine q_tswIn X hx2 0 32 68 h12 dX6_object_36 (by decide) rfl (by decide) ?_
          refine q_aload_n X dX6_object_68 0 rfl ?_
          refine fg_X6_33 X dX6_object_69 ?_
          refine fg_X6_174 X dX6_object_72 ?_
          refine fg_X6_183 X dX6_object_75 ?_
          refine q_iload_n X dX6_object_78 1 rfl ?_
          refine q_iald X hC51 (by decide) dX6_object_79 (fun h13 => ?_)
          exact q_iretp X h13 hr hlk dX6_object_80
        · refine q_ite (fun h14 => ?_) (fun h14 => ?_)
          · refine q_tswIn X hx2 1 45 81 h14 dX6_object_36 (by decide) rfl (by decide) ?_
            refine q_aload_n X dX6_object_81 0 rfl ?_
            refine fg_X6_33 X dX6_object_82 ?_
            refine fg_X6_174 X dX6_object_85 ?_
            refine fg_X6_186 X dX6_object_88 ?_
            refine q_iload_n X dX6_object_91 1 rfl ?_
            refine q_iald X hC52 (by decide) dX6_object_92 (fun h15 => ?_)
            exact q_iretp X h15 hr hlk dX6_object_93
          · refine q_ite (fun h16 => ?_) (fun h16 => ?_)
            · refine q_tswIn X hx2 2 58 94 h16 dX6_object_36 (by decide) rfl (by decide) ?_
              refine q_aload_n X dX6_object_94 0 rfl ?_
              refine fg_X6_33 X dX6_object_95 ?_
              refine fg_X6_174 X dX6_object_98 ?_
              refine fg_X6_189 X dX6_object_101 ?_
              refine q_iload_n X dX6_object_104 1 rfl ?_
              refine q_iald X hC53 (by decide) dX6_object_105 (fun h17 => ?_)
              exact q_iretp X h17 hr hlk dX6_object_106
            · refine q_ite (fun h18 => ?_) (fun h18 => ?_)
              · refine q_tswIn X hx2 3 71 107 h18 dX6_object_36 (by decide) rfl (by decide) ?_
                refine q_aload_n X dX6_object_107 0 rfl ?_
                refine fg_X6_33 X dX6_object_108 ?_
                refine fg_X6_174 X dX6_object_111 ?_
                refine q_iload_n X dX6_object_114 1 rfl ?_
                refine q_callIp X NCok hN Aw_new (c_X2_classOf hx1) (rn_V X (cwV 1 X.2.2.2.2.1 (tbG_good _ (tbG_V mw_785 mw_723 mw_724 mw_8 mw_725)) rfl rfl rfl hd_X2_classOf ⟨by decide, by decide⟩) hC50 rfl rfl rfl (Nat.le_of_ble_eq_true rfl) dX6_object_115) (fun r19 _ h21 => ?_)
                exact q_iretp X h21 hr hlk dX6_object_118
              · refine q_tswOut X hx2 119 (by omega) dX6_object_36 (by decide) ?_
                refine q_iload_n X dX6_object_119 2 rfl ?_
                refine q_bipush X dX6_object_120 (by decide) ?_
                refine q_icmp_ge X hx2 (by decide) 142 dX6_object_122 (by decide) (fun h22 => ?_) (fun h22 => ?_)
                · refine q_aload_n X dX6_object_142 0 rfl ?_
                  refine fg_X6_33 X dX6_object_143 ?_
                  refine fg_X6_174 X dX6_object_146 ?_
                  refine q_iload_n X dX6_object_149 1 rfl ?_
                  refine q_iload_n X dX6_object_150 2 rfl ?_
                  refine q_bipush X dX6_object_151 (by decide) ?_
                  refine q_isub X dX6_object_153 ?_
                  refine q_ck (fun h23 => ?_)
                  refine q_callIp X NCok hN Aw_new (c_X2_placeOf hx1 h23) (rn_V X (cwV 2 X.2.2.2.2.1 (tbG_good _ (tbG_V mw_787 mw_715 mw_716 mw_8 mw_717)) rfl rfl rfl hd_X2_placeOf ⟨by decide, by decide⟩) hC50 rfl rfl rfl (Nat.le_of_ble_eq_true rfl) dX6_object_154) (fun r24 _ h26 => ?_)
                  exact q_iretp X h26 hr hlk dX6_object_157
                · refine q_aload_n X dX6_object_125 0 rfl ?_
                  refine fg_X6_33 X dX6_object_126 ?_
                  refine fg_X6_174 X dX6_object_129 ?_
                  refine q_iload_n X dX6_object_132 1 rfl ?_
                  refine q_iload_n X dX6_object_133 2 rfl ?_
                  refine q_iconst X dX6_object_134 ?_
                  refine q_isub X dX6_object_135 ?_
                  refine q_ck (fun h27 => ?_)
                  refine q_callIp X NCok hN Aw_new (c_X2_fieldOf hx1 h27) (rn_V X (cwV 2 X.2.2.2.2.1 (tbG_good _ (tbG_V mw_786 mw_688 mw_689 mw_8 mw_690)) rfl rfl rfl hd_X2_fieldOf ⟨by decide, by decide⟩) hC50 rfl rfl rfl (Nat.le_of_ble_eq_true rfl) dX6_object_136) (fun r28 _ h30 => ?_)
                  refine q_goto X 157 dX6_object_139 (by decide) ?_
                  exact q_iretp X h30 hr hlk dX6_object_157

/-! SiteObjects.many(I)I -/
abbrev GX6_many (p : Program) (l : Launch) (e : Env) (s : State) (m : MethodId) (args : Array Value) (below : List Frame) (meth : Method) (c : Code) (D : va_G) (ca : Nat → ClassId) (ad : Nat → Nat) (σ : Mm) (res : Int) : Nat → List (Nat × Value) → List Value → Mm → Option (Int) → Prop := G p l e { frames := 1, cells := 0, slots := 0, locals := 23 } s m args below meth c (MQ below (QcI D vcl ca ad shC s.heap.size (res, σ)) args s 0 0 (Aw ad shC.length s.heap.size)) 2 D vcl ca ad shC (Aw ad shC.length s.heap.size) res
def f_X6_many (x1 : Int) (σ : Mm) : Option (Int) :=
  (if (σ.1 0 5) = 0 then some (-2) else (f_X6_isIn x1 (σ.1 24 3) σ).bind (fun r4 => (if r4 = 0 then some (-1) else (if (σ.1 0 6) = 0 then some (-9) else (f_X2_countOf x1 σ).bind (fun r10 => some r10)))))
theorem hd_X6_many : yX6_many.cls = RX6 ∧ yX6_many.cls ≠ "java/lang/invoke/MethodHandle" ∧ yX6_many.cls ≠ "java/lang/invoke/VarHandle" ∧ (parseMethodDescriptor yX6_many.desc).map (fun d => d.parameters.length) = some 1 := by decide +kernel
set_option maxRecDepth 100000 in
set_option maxHeartbeats 4000000 in
theorem c_X6_many {l : Launch} {D : va_G} {ca : Nat → ClassId} {ad : Nat → Nat} {x1 : Int} (hx1 : inR x1) {σ : Mm} : CtI l D vcl ca ad shC NC yX6_many (Cond.code yX6_many cX6_many 2 (some .int) :: tbG) { frames := 1, cells := 0, slots := 0, locals := 23 } [.ref (ad 0), .int (oi x1)] σ ((f_X6_many x1 σ).map (fun r => (r, σ))) := by
  refine ct_Ip RX6 rfl (by decide) rfl (Nat.le_of_ble_eq_true rfl) (fun p e s m below meth c res X hN hr hlk => ?_)
  show GX6_many p l e s m _ below meth c D ca ad σ res 0 [(0, .ref (ad 0)), (1, .int (oi x1))] [] σ (f_X6_many x1 σ)
  unfold f_X6_many
  refine q_aload_n X dX6_many_0 0 rfl ?_
  refine fg_X6_92 X dX6_many_1 (fun h1 => ?_)
  refine q_if_ne X h1 10 dX6_many_4 (by decide) (fun h2 => ?_) (fun h2 => ?_)
  · refine q_bipush X dX6_many_7 (by decide) ?_
    exact q_iretp X (by decide) hr hlk dX6_many_9
  · refine q_iload_n X dX6_many_10 1 rfl ?_
    refine q_aload_n X dX6_many_11 0 rfl ?_
    refine fg_X6_21 X dX6_many_12 ?_
    refine fg_X6_103 (o := 15) (Or.inl rfl) X dX6_many_15 ?_
    refine fg_X6_107 (o := 15) (Or.inl rfl) X dX6_many_18 (fun h3 => ?_)
    refine q_callIp X NCok hN Aw_new (c_X6_isIn hx1 h3) (rn_S X (va_cwS 2 X.2.2.2.2.1 (tbG_good _ (tbG_S mw_370 mw_328 mw_1 mw_329)) rfl rfl rfl hd_X6_isIn ⟨by decide, by decide⟩) rfl rfl (Nat.le_of_ble_eq_true rfl) dX6_many_21) (fun r4 _ h6 => ?_)
    refine q_if_ne X h6 29 dX6_many_24 (by decide) (fun h7 => ?_) (fun h7 => ?_)
    · refine q_iconst X dX6_many_27 ?_
      exact q_iretp X (by decide) hr hlk dX6_many_28
    · refine q_aload_n X dX6_many_29 0 rfl ?_
      refine fg_X6_96 X dX6_many_30 (fun h8 => ?_)
      refine q_if_eq X h8 50 dX6_many_33 (by decide) (fun h9 => ?_) (fun h9 => ?_)
      · refine q_bipush X dX6_many_50 (by decide) ?_
        exact q_iretp X (by decide) hr hlk dX6_many_52
      · refine q_aload_n X dX6_many_36 0 rfl ?_
        refine fg_X6_33 X dX6_many_37 ?_
        refine fg_X6_174 X dX6_many_40 ?_
        refine q_iload_n X dX6_many_43 1 rfl ?_
        refine q_callIp X NCok hN Aw_new (c_X2_countOf hx1) (rn_V X (cwV 1 X.2.2.2.2.1 (tbG_good _ (tbG_V mw_792 mw_793 mw_794 mw_8 mw_795)) rfl rfl rfl hd_X2_countOf ⟨by decide, by decide⟩) hC50 rfl rfl rfl (Nat.le_of_ble_eq_true rfl) dX6_many_44) (fun r10 _ h12 => ?_)
        refine q_goto X 52 dX6_many_47 (by decide) ?_
        exact q_iretp X h12 hr hlk dX6_many_52

/-! SiteObjects.count(I)I -/
abbrev GX6_count (p : Program) (l : Launch) (e : Env) (s : State) (m : MethodId) (args : Array Value) (below : List Frame) (meth : Method) (c : Code) (D : va_G) (ca : Nat → ClassId) (ad : Nat → Nat) (σ : Mm) (res : Int) : Nat → List (Nat × Value) → List Value → Mm → Option (Int) → Prop := G p l e { frames := 0, cells := 0, slots := 0, locals := 0 } s m args below meth c (MQ below (QcI D vcl ca ad shC s.heap.size (res, σ)) args s 0 0 (Aw ad shC.length s.heap.size)) 2 D vcl ca ad shC (Aw ad shC.length s.heap.size) res
def f_X6_count (x1 : Int) (σ : Mm) : Option (Int) :=
  (if x1 = 0 then some (σ.1 1 0) else (if x1 = 1 then some (σ.1 1 1) else (if x1 = 2 then some (σ.1 1 2) else (if x1 = 3 then (if (σ.1 0 5) = 0 then some 0 else some (σ.1 24 2)) else (if x1 = 4 then (if (σ.1 0 5) = 0 then some 0 else some (σ.1 24 3)) else (if x1 = 5 then some (σ.1 15 8) else (if x1 = 6 then (if (σ.1 0 5) = 0 then some 0 else some 1) else some (-1))))))))
theorem hd_X6_count : yX6_count.cls = RX6 ∧ yX6_count.cls ≠ "java/lang/invoke/MethodHandle" ∧ yX6_count.cls ≠ "java/lang/invoke/VarHandle" ∧ (parseMethodDescriptor yX6_count.desc).map (fun d => d.parameters.length) = some 1 := by decide +kernel
set_option maxRecDepth 100000 in
set_option maxHeartbeats 4000000 in
theorem c_X6_count {l : Launch} {D : va_G} {ca : Nat → ClassId} {ad : Nat → Nat} {x1 : Int} (hx1 : inR x1) {σ : Mm} : CtI l D vcl ca ad shC NC yX6_count (Cond.code yX6_count cX6_count 2 (some .int) :: tbG) { frames := 0, cells := 0, slots := 0, locals := 0 } [.ref (ad 0), .int (oi x1)] σ ((f_X6_count x1 σ).map (fun r => (r, σ))) := by
  refine ct_Ip RX6 rfl (by decide) rfl (Nat.le_of_ble_eq_true rfl) (fun p e s m below meth c res X hN hr hlk => ?_)
  show GX6_count p l e s m _ below meth c D ca ad σ res 0 [(0, .ref (ad 0)), (1, .int (oi x1))] [] σ (f_X6_count x1 σ)
  unfold f_X6_count
  refine q_iload_n X dX6_count_0 1 rfl ?_
  refine q_ite (fun h1 => ?_) (fun h1 => ?_)
  · refine q_tswIn X hx1 0 43 44 h1 dX6_count_1 (by decide) rfl (by decide) ?_
    refine q_aload_n X dX6_count_44 0 rfl ?_
    refine fg_X6_10 X dX6_count_45 ?_
    refine fg_X6_41 X dX6_count_48 (fun h2 => ?_)
    exact q_iretp X h2 hr hlk dX6_count_51
  · refine q_ite (fun h3 => ?_) (fun h3 => ?_)
    · refine q_tswIn X hx1 1 51 52 h3 dX6_count_1 (by decide) rfl (by decide) ?_
      refine q_aload_n X dX6_count_52 0 rfl ?_
      refine fg_X6_10 X dX6_count_53 ?_
      refine fg_X6_56 X dX6_count_56 (fun h4 => ?_)
      exact q_iretp X h4 hr hlk dX6_count_59
    · refine q_ite (fun h5 => ?_) (fun h5 => ?_)
      · refine q_tswIn X hx1 2 59 60 h5 dX6_count_1 (by decide) rfl (by decide) ?_
        refine q_aload_n X dX6_count_60 0 rfl ?_
        refine fg_X6_10 X dX6_count_61 ?_
        refine fg_X6_204 X dX6_count_64 (fun h6 => ?_)
        exact q_iretp X h6 hr hlk dX6_count_67
      · refine q_ite (fun h7 => ?_) (fun h7 => ?_)
        · refine q_tswIn X hx1 3 67 68 h7 dX6_count_1 (by decide) rfl (by decide) ?_
          refine q_aload_n X dX6_count_68 0 rfl ?_
          refine fg_X6_92 X dX6_count_69 (fun h8 => ?_)
          refine q_if_eq X h8 88 dX6_count_72 (by decide) (fun h9 => ?_) (fun h9 => ?_)
          · refine q_iconst X dX6_count_88 ?_
            exact q_iretp X (by decide) hr hlk dX6_count_89
          · refine q_aload_n X dX6_count_75 0 rfl ?_
            refine fg_X6_21 X dX6_count_76 ?_
            refine fg_X6_103 (o := 15) (Or.inl rfl) X dX6_count_79 ?_
            refine fg_X6_128 (o := 15) (Or.inl rfl) X dX6_count_82 (fun h10 => ?_)
            refine q_goto X 89 dX6_count_85 (by decide) ?_
            exact q_iretp X h10 hr hlk dX6_count_89
        · refine q_ite (fun h11 => ?_) (fun h11 => ?_)
          · refine q_tswIn X hx1 4 89 90 h11 dX6_count_1 (by decide) rfl (by decide) ?_
            refine q_aload_n X dX6_count_90 0 rfl ?_
            refine fg_X6_92 X dX6_count_91 (fun h12 => ?_)
            refine q_if_eq X h12 110 dX6_count_94 (by decide) (fun h13 => ?_) (fun h13 => ?_)
            · refine q_iconst X dX6_count_110 ?_
              exact q_iretp X (by decide) hr hlk dX6_count_111
            · refine q_aload_n X dX6_count_97 0 rfl ?_
              refine fg_X6_21 X dX6_count_98 ?_
              refine fg_X6_103 (o := 15) (Or.inl rfl) X dX6_count_101 ?_
              refine fg_X6_107 (o := 15) (Or.inl rfl) X dX6_count_104 (fun h14 => ?_)
              refine q_goto X 111 dX6_count_107 (by decide) ?_
              exact q_iretp X h14 hr hlk dX6_count_111
          · refine q_ite (fun h15 => ?_) (fun h15 => ?_)
            · refine q_tswIn X hx1 5 111 112 h15 dX6_count_1 (by decide) rfl (by decide) ?_
              refine q_aload_n X dX6_count_112 0 rfl ?_
              refine fg_X6_21 X dX6_count_113 ?_
              refine fg_X6_207 (o := 15) (Or.inl rfl) X dX6_count_116 (fun h16 => ?_)
              exact q_iretp X h16 hr hlk dX6_count_119
            · refine q_ite (fun h17 => ?_) (fun h17 => ?_)
              · refine q_tswIn X hx1 6 119 120 h17 dX6_count_1 (by decide) rfl (by decide) ?_
                refine q_aload_n X dX6_count_120 0 rfl ?_
                refine fg_X6_92 X dX6_count_121 (fun h18 => ?_)
                refine q_if_eq X h18 131 dX6_count_124 (by decide) (fun h19 => ?_) (fun h19 => ?_)
                · refine q_iconst X dX6_count_131 ?_
                  exact q_iretp X (by decide) hr hlk dX6_count_132
                · refine q_iconst X dX6_count_127 ?_
                  refine q_goto X 132 dX6_count_128 (by decide) ?_
                  exact q_iretp X (by decide) hr hlk dX6_count_132
              · refine q_tswOut X hx1 133 (by omega) dX6_count_1 (by decide) ?_
                refine q_iconst X dX6_count_133 ?_
                exact q_iretp X (by decide) hr hlk dX6_count_134

/-! SiteObjects.within(II)I -/
abbrev GX6_within (p : Program) (l : Launch) (e : Env) (s : State) (m : MethodId) (args : Array Value) (below : List Frame) (meth : Method) (c : Code) (D : va_G) (ca : Nat → ClassId) (ad : Nat → Nat) (res : Int × Mm) : Nat → List (Nat × Value) → List Value → Mm → Option (Int × Mm) → Prop := G p l e { frames := 7, cells := 0, slots := 0, locals := 182 } s m args below meth c (MQ below (QcI D vcl ca ad shC s.heap.size res) args s 0 0 (Aw ad shC.length s.heap.size)) 5 D vcl ca ad shC (Aw ad shC.length s.heap.size) res
def f_X6_within_58 (k44 : Int → Mm → Option (Int × Mm)) : Nat → Int → Int → Mm → Option (Int × Mm)
  | 0, _, _, _ => none
  | n + 1, x3, x4, σ => (if 6 ≤ x4 then ck (inR (x3 + 1)) (k44 (x3 + 1) σ) else (f_X0_isNoMoreThan 29 15 x3 x4 σ).bind (fun r3 => (if r3 = 0 then some (0, σ) else ck (inR (x4 + 1)) (f_X6_within_58 k44 n x3 (x4 + 1) σ))))
set_option maxRecDepth 100000 in
set_option maxHeartbeats 4000000 in
theorem t_X6_within_58 {p : Program} {l : Launch} {e : Env} {s : State} {m : MethodId} {args : Array Value} {below : List Frame} {meth : Method} {c : Code} {D : va_G} {ca : Nat → ClassId} {ad : Nat → Nat} {res : Int × Mm} {k44 : Int → Mm → Option (Int × Mm)} (X : Cx p s m args c cX6_within 5 RX6 (Cond.code yX6_within cX6_within 5 (some .int) :: tbG) D vcl ca) (hN : NC s) (hr : meth.sig.returnType = (some .int)) (hlk : meth.locks = false) (hk44 : ∀ (x3 : Int) (σ : Mm), inR x3 → GX6_within p l e s m args below meth c D ca ad res 44 [(0, .ref (ad 0)), (3, .int (oi x3))] [] σ (k44 x3 σ)) : ∀ (n : Nat) (x3 : Int) (x4 : Int) (σ : Mm), inR x3 → inR x4 → GX6_within p l e s m args below meth c D ca ad res 58 [(0, .ref (ad 0)), (3, .int (oi x3)), (4, .int (oi x4))] [] σ (f_X6_within_58 k44 n x3 x4 σ)
  := by
  intro n
  induction n with
  | zero => intro x3 x4 σ hx3 hx4 h; cases h
  | succ n ih =>
    intro x3 x4 σ hx3 hx4
    rw [f_X6_within_58]
    refine q_iload X dX6_within_58 2 rfl ?_
    refine q_bipush X dX6_within_60 (by decide) ?_
    refine q_icmp_ge X hx4 (by decide) 90 dX6_within_62 (by decide) (fun h1 => ?_) (fun h1 => ?_)
    · refine q_iinc X [(3, .int (oi (x3 + 1))), (0, .ref (ad 0)), (4, .int (oi x4))] dX6_within_90 (by decide) 1 rfl rfl (fun h2 => ?_)
      refine q_goto X 44 dX6_within_93 (by decide) ?_
      refine q_sub [(0, .ref (ad 0)), (3, .int (oi (x3 + 1)))] [1, 0] rfl ?_
      exact hk44 (x3 + 1) σ h2
    · refine q_aload_n X dX6_within_65 0 rfl ?_
      refine fg_X6_25 X dX6_within_66 ?_
      refine q_aload_n X dX6_within_69 0 rfl ?_
      refine fg_X6_21 X dX6_within_70 ?_
      refine q_iload_n X dX6_within_73 1 rfl ?_
      refine q_iload X dX6_within_74 2 rfl ?_
      refine q_callIp X NCok hN Aw_new (c_X0_isNoMoreThan (Or.inr rfl) (Or.inl rfl) hx3 hx4) (rn_V X (cwV 3 X.2.2.2.2.1 (tbG_good _ (tbG_V mw_804 mw_805 mw_806 mw_4 mw_807)) rfl rfl rfl hd_X0_isNoMoreThan ⟨by decide, by decide⟩) (hO0 (Or.inr rfl)) rfl rfl rfl (Nat.le_of_ble_eq_true rfl) dX6_within_76) (fun r3 _ h5 => ?_)
      refine q_if_ne X h5 84 dX6_within_79 (by decide) (fun h6 => ?_) (fun h6 => ?_)
      · refine q_iconst X dX6_within_82 ?_
        exact q_iret X (by decide) hr hlk dX6_within_83
      · refine q_iinc X [(4, .int (oi (x4 + 1))), (0, .ref (ad 0)), (3, .int (oi x3))] dX6_within_84 (by decide) 2 rfl rfl (fun h7 => ?_)
        refine q_goto X 58 dX6_within_87 (by decide) ?_
        refine q_sub [(0, .ref (ad 0)), (3, .int (oi x3)), (4, .int (oi (x4 + 1)))] [1, 2, 0] rfl ?_
        exact ih x3 (x4 + 1) σ hx3 h7
def f_X6_within_44 : Nat → Int → Mm → Option (Int × Mm)
  | 0, _, _ => none
  | n + 1, x3, σ => (if (σ.1 1 1) ≤ x3 then some (1, σ) else f_X6_within_58 (f_X6_within_44 n) 2000 x3 0 σ)
set_option maxRecDepth 100000 in
set_option maxHeartbeats 4000000 in
theorem t_X6_within_44 {p : Program} {l : Launch} {e : Env} {s : State} {m : MethodId} {args : Array Value} {below : List Frame} {meth : Method} {c : Code} {D : va_G} {ca : Nat → ClassId} {ad : Nat → Nat} {res : Int × Mm} (X : Cx p s m args c cX6_within 5 RX6 (Cond.code yX6_within cX6_within 5 (some .int) :: tbG) D vcl ca) (hN : NC s) (hr : meth.sig.returnType = (some .int)) (hlk : meth.locks = false) : ∀ (n : Nat) (x3 : Int) (σ : Mm), inR x3 → GX6_within p l e s m args below meth c D ca ad res 44 [(0, .ref (ad 0)), (3, .int (oi x3))] [] σ (f_X6_within_44 n x3 σ)
  := by
  intro n
  induction n with
  | zero => intro x3 σ hx3 h; cases h
  | succ n ih =>
    intro x3 σ hx3
    rw [f_X6_within_44]
    refine q_iload_n X dX6_within_44 1 rfl ?_
    refine q_aload_n X dX6_within_45 0 rfl ?_
    refine fg_X6_10 X dX6_within_46 ?_
    refine fg_X6_56 X dX6_within_49 (fun h8 => ?_)
    refine q_icmp_ge X hx3 h8 96 dX6_within_52 (by decide) (fun h9 => ?_) (fun h9 => ?_)
    · refine q_iconst X dX6_within_96 ?_
      exact q_iret X (by decide) hr hlk dX6_within_97
    · refine q_iconst X dX6_within_55 ?_
      refine q_istore X [(4, .int (oi 0)), (0, .ref (ad 0)), (3, .int (oi x3))] dX6_within_56 (by decide) rfl ?_
      refine q_sub [(0, .ref (ad 0)), (3, .int (oi x3)), (4, .int (oi 0))] [1, 2, 0] rfl ?_
      exact t_X6_within_58 X hN hr hlk ih 2000 x3 0 σ hx3 (by decide)
def f_X6_within (x1 : Int) (x2 : Int) (σ : Mm) : Option (Int × Mm) :=
  (f_X6_isIn x1 3 σ).bind (fun r10 => (if r10 = 0 then some ((-1), σ) else (f_X6_isIn x2 3 σ).bind (fun r14 => (if r14 = 0 then some ((-1), σ) else (if (σ.1 0 5) = 0 then some ((-2), σ) else (f_X0_find 29 (σ.1 0 4) x1 x2 σ).bind (fun r21 => f_X6_within_44 2000 0 r21.2))))))
theorem hd_X6_within : yX6_within.cls = RX6 ∧ yX6_within.cls ≠ "java/lang/invoke/MethodHandle" ∧ yX6_within.cls ≠ "java/lang/invoke/VarHandle" ∧ (parseMethodDescriptor yX6_within.desc).map (fun d => d.parameters.length) = some 2 := by decide +kernel
set_option maxRecDepth 100000 in
set_option maxHeartbeats 4000000 in
theorem c_X6_within {l : Launch} {D : va_G} {ca : Nat → ClassId} {ad : Nat → Nat} {x1 : Int} {x2 : Int} (hx1 : inR x1) (hx2 : inR x2) {σ : Mm} : CtI l D vcl ca ad shC NC yX6_within (Cond.code yX6_within cX6_within 5 (some .int) :: tbG) { frames := 7, cells := 0, slots := 0, locals := 182 } [.ref (ad 0), .int (oi x1), .int (oi x2)] σ (f_X6_within x1 x2 σ) := by
  refine ct_I RX6 rfl (by decide) rfl (Nat.le_of_ble_eq_true rfl) (fun p e s m below meth c res X hN hr hlk => ?_)
  show GX6_within p l e s m _ below meth c D ca ad res 0 [(0, .ref (ad 0)), (1, .int (oi x1)), (2, .int (oi x2))] [] σ (f_X6_within x1 x2 σ)
  unfold f_X6_within
  refine q_iload_n X dX6_within_0 1 rfl ?_
  refine q_iconst X dX6_within_1 ?_
  refine q_callIp X NCok hN Aw_new (c_X6_isIn hx1 (by decide)) (rn_S X (va_cwS 2 X.2.2.2.2.1 (tbG_good _ (tbG_S mw_370 mw_328 mw_1 mw_329)) rfl rfl rfl hd_X6_isIn ⟨by decide, by decide⟩) rfl rfl (Nat.le_of_ble_eq_true rfl) dX6_within_2) (fun r10 _ h12 => ?_)
  refine q_if_eq X h12 16 dX6_within_5 (by decide) (fun h13 => ?_) (fun h13 => ?_)
  · refine q_iconst X dX6_within_16 ?_
    exact q_iret X (by decide) hr hlk dX6_within_17
  · refine q_iload_n X dX6_within_8 2 rfl ?_
    refine q_iconst X dX6_within_9 ?_
    refine q_callIp X NCok hN Aw_new (c_X6_isIn hx2 (by decide)) (rn_S X (va_cwS 2 X.2.2.2.2.1 (tbG_good _ (tbG_S mw_370 mw_328 mw_1 mw_329)) rfl rfl rfl hd_X6_isIn ⟨by decide, by decide⟩) rfl rfl (Nat.le_of_ble_eq_true rfl) dX6_within_10) (fun r14 _ h16 => ?_)
    refine q_if_ne X h16 18 dX6_within_13 (by decide) (fun h17 => ?_) (fun h17 => ?_)
    · refine q_iconst X dX6_within_16 ?_
      exact q_iret X (by decide) hr hlk dX6_within_17
    · refine q_aload_n X dX6_within_18 0 rfl ?_
      refine fg_X6_92 X dX6_within_19 (fun h18 => ?_)
      refine q_if_ne X h18 28 dX6_within_22 (by decide) (fun h19 => ?_) (fun h19 => ?_)
      · refine q_bipush X dX6_within_25 (by decide) ?_
        exact q_iret X (by decide) hr hlk dX6_within_27
      · refine q_aload_n X dX6_within_28 0 rfl ?_
        refine fg_X6_25 X dX6_within_29 ?_
        refine q_aload_n X dX6_within_32 0 rfl ?_
        refine fg_X6_89 X dX6_within_33 (fun h20 => ?_)
        refine q_iload_n X dX6_within_36 1 rfl ?_
        refine q_iload_n X dX6_within_37 2 rfl ?_
        refine q_callI X NCok hN Aw_new (c_X0_find (Or.inr rfl) h20 hx1 hx2) (rn_V X (cwV 3 X.2.2.2.2.1 (tbG_good _ (tbG_V mw_399 mw_400 mw_401 mw_4 mw_402)) rfl rfl rfl hd_X0_find ⟨by decide, by decide⟩) (hO0 (Or.inr rfl)) rfl rfl rfl (Nat.le_of_ble_eq_true rfl) dX6_within_38) (fun r21 _ h23 => ?_)
        refine q_pop X dX6_within_41 rfl ?_
        refine q_iconst X dX6_within_42 ?_
        refine q_istore_n X [(3, .int (oi 0)), (0, .ref (ad 0)), (1, .int (oi x1)), (2, .int (oi x2))] dX6_within_43 (by decide) rfl ?_
        refine q_sub [(0, .ref (ad 0)), (3, .int (oi 0))] [1, 0] rfl ?_
        exact t_X6_within_44 X hN hr hlk 2000 0 r21.2 (by decide)
