/-! SiteObjects$Program.stepAt(II)I -/
abbrev GX3_stepAt (p : Program) (l : Launch) (e : Env) (s : State) (m : MethodId) (args : Array Value) (below : List Frame) (meth : Method) (c : Code) (D : va_G) (ca : Nat → ClassId) (ad : Nat → Nat) (σ : Mm) (res : Int) : Nat → List (Nat × Value) → List Value → Mm → Option (Int) → Prop := G p l e { frames := 0, cells := 0, slots := 0, locals := 0 } s m args below meth c (MQ below (QcI D vcl ca ad shC s.heap.size (res, σ)) args s 0 0 (Aw ad shC.length s.heap.size)) 3 D vcl ca ad shC (Aw ad shC.length s.heap.size) res
def f_X3_stepAt (x1 : Int) (x2 : Int) (σ : Mm) : Option (Int) :=
  (if x2 < 0 then some (-1) else ck ((0 : Int) ≤ x1 ∧ x1 < ((12 : Nat) : Int)) ((if (σ.1 6 (Int.toNat x1)) ≤ x2 then some (-1) else ck ((0 : Int) ≤ ((x1 * 90) + x2) ∧ ((x1 * 90) + x2) < ((1080 : Nat) : Int)) (some (σ.1 7 (Int.toNat ((x1 * 90) + x2)))))))
theorem hd_X3_stepAt : yX3_stepAt.cls = RX3 ∧ yX3_stepAt.cls ≠ "java/lang/invoke/MethodHandle" ∧ yX3_stepAt.cls ≠ "java/lang/invoke/VarHandle" ∧ (parseMethodDescriptor yX3_stepAt.desc).map (fun d => d.parameters.length) = some 2 := by decide +kernel
set_option maxRecDepth 100000 in
set_option maxHeartbeats 4000000 in
theorem c_X3_stepAt {l : Launch} {D : va_G} {ca : Nat → ClassId} {ad : Nat → Nat} {x1 : Int} {x2 : Int} (hx1 : inR x1) (hx2 : inR x2) {σ : Mm} : CtI l D vcl ca ad shC NC yX3_stepAt (Cond.code yX3_stepAt cX3_stepAt 3 (some .int) :: tbG) { frames := 0, cells := 0, slots := 0, locals := 0 } [.ref (ad 1), .int (oi x1), .int (oi x2)] σ ((f_X3_stepAt x1 x2 σ).map (fun r => (r, σ))) := by
  refine ct_Ip RX3 rfl (by decide) rfl (Nat.le_of_ble_eq_true rfl) (fun p e s m below meth c res X hN hr hlk => ?_)
  show GX3_stepAt p l e s m _ below meth c D ca ad σ res 0 [(0, .ref (ad 1)), (1, .int (oi x1)), (2, .int (oi x2))] [] σ (f_X3_stepAt x1 x2 σ)
  unfold f_X3_stepAt
  refine q_iload_n X dX3_stepAt_0 2 rfl ?_
  refine q_if_lt X hx2 28 dX3_stepAt_1 (by decide) (fun h1 => ?_) (fun h1 => ?_)
  · refine q_iconst X dX3_stepAt_28 ?_
    exact q_iretp X (by decide) hr hlk dX3_stepAt_29
  · refine q_iload_n X dX3_stepAt_4 2 rfl ?_
    refine q_aload_n X dX3_stepAt_5 0 rfl ?_
    refine fg_X3_37 X dX3_stepAt_6 ?_
    refine q_iload_n X dX3_stepAt_9 1 rfl ?_
    refine q_iald X hC6 (by decide) dX3_stepAt_10 (fun h2 => ?_)
    refine q_icmp_ge X hx2 h2 28 dX3_stepAt_11 (by decide) (fun h3 => ?_) (fun h3 => ?_)
    · refine q_iconst X dX3_stepAt_28 ?_
      exact q_iretp X (by decide) hr hlk dX3_stepAt_29
    · refine q_aload_n X dX3_stepAt_14 0 rfl ?_
      refine fg_X3_40 X dX3_stepAt_15 ?_
      refine q_iload_n X dX3_stepAt_18 1 rfl ?_
      refine q_bipush X dX3_stepAt_19 (by decide) ?_
      refine q_imul X dX3_stepAt_21 ?_
      refine q_iload_n X dX3_stepAt_22 2 rfl ?_
      refine q_iadd X dX3_stepAt_23 ?_
      refine q_iald X hC7 (by decide) dX3_stepAt_24 (fun h4 => ?_)
      refine q_goto X 29 dX3_stepAt_25 (by decide) ?_
      exact q_iretp X h4 hr hlk dX3_stepAt_29

/-! SiteObjects$Program.madeClass(I)I -/
abbrev GX3_madeClass (p : Program) (l : Launch) (e : Env) (s : State) (m : MethodId) (args : Array Value) (below : List Frame) (meth : Method) (c : Code) (D : va_G) (ca : Nat → ClassId) (ad : Nat → Nat) (σ : Mm) (res : Int) : Nat → List (Nat × Value) → List Value → Mm → Option (Int) → Prop := G p l e { frames := 0, cells := 0, slots := 0, locals := 0 } s m args below meth c (MQ below (QcI D vcl ca ad shC s.heap.size (res, σ)) args s 0 0 (Aw ad shC.length s.heap.size)) 2 D vcl ca ad shC (Aw ad shC.length s.heap.size) res
def f_X3_madeClass (x1 : Int) (σ : Mm) : Option (Int) :=
  ck ((0 : Int) ≤ x1 ∧ x1 < ((90 : Nat) : Int)) ((if (σ.1 8 (Int.toNat x1)) = 1 then some 0 else ck ((0 : Int) ≤ x1 ∧ x1 < ((90 : Nat) : Int)) (some (σ.1 10 (Int.toNat x1)))))
theorem hd_X3_madeClass : yX3_madeClass.cls = RX3 ∧ yX3_madeClass.cls ≠ "java/lang/invoke/MethodHandle" ∧ yX3_madeClass.cls ≠ "java/lang/invoke/VarHandle" ∧ (parseMethodDescriptor yX3_madeClass.desc).map (fun d => d.parameters.length) = some 1 := by decide +kernel
set_option maxRecDepth 100000 in
set_option maxHeartbeats 4000000 in
theorem c_X3_madeClass {l : Launch} {D : va_G} {ca : Nat → ClassId} {ad : Nat → Nat} {x1 : Int} (hx1 : inR x1) {σ : Mm} : CtI l D vcl ca ad shC NC yX3_madeClass (Cond.code yX3_madeClass cX3_madeClass 2 (some .int) :: tbG) { frames := 0, cells := 0, slots := 0, locals := 0 } [.ref (ad 1), .int (oi x1)] σ ((f_X3_madeClass x1 σ).map (fun r => (r, σ))) := by
  refine ct_Ip RX3 rfl (by decide) rfl (Nat.le_of_ble_eq_true rfl) (fun p e s m below meth c res X hN hr hlk => ?_)
  show GX3_madeClass p l e s m _ below meth c D ca ad σ res 0 [(0, .ref (ad 1)), (1, .int (oi x1))] [] σ (f_X3_madeClass x1 σ)
  unfold f_X3_madeClass
  refine q_aload_n X dX3_madeClass_0 0 rfl ?_
  refine fg_X3_43 X dX3_madeClass_1 ?_
  refine q_iload_n X dX3_madeClass_4 1 rfl ?_
  refine q_iald X hC8 (by decide) dX3_madeClass_5 (fun h1 => ?_)
  refine q_iconst X dX3_madeClass_6 ?_
  refine q_icmp_ne X h1 (by decide) 14 dX3_madeClass_7 (by decide) (fun h2 => ?_) (fun h2 => ?_)
  · refine q_iconst X dX3_madeClass_10 ?_
    refine q_goto X 20 dX3_madeClass_11 (by decide) ?_
    exact q_iretp X (by decide) hr hlk dX3_madeClass_20
  · refine q_aload_n X dX3_madeClass_14 0 rfl ?_
    refine fg_X3_49 X dX3_madeClass_15 ?_
    refine q_iload_n X dX3_madeClass_18 1 rfl ?_
    refine q_iald X hC10 (by decide) dX3_madeClass_19 (fun h3 => ?_)
    exact q_iretp X h3 hr hlk dX3_madeClass_20

/-! SiteObjects$Program.liesBelow(II)Z -/
abbrev GX3_liesBelow (p : Program) (l : Launch) (e : Env) (s : State) (m : MethodId) (args : Array Value) (below : List Frame) (meth : Method) (c : Code) (D : va_G) (ca : Nat → ClassId) (ad : Nat → Nat) (σ : Mm) (res : Int) : Nat → List (Nat × Value) → List Value → Mm → Option (Int) → Prop := G p l e { frames := 0, cells := 0, slots := 0, locals := 0 } s m args below meth c (MQ below (QcI D vcl ca ad shC s.heap.size (res, σ)) args s 0 0 (Aw ad shC.length s.heap.size)) 3 D vcl ca ad shC (Aw ad shC.length s.heap.size) res
def f_X3_liesBelow (x1 : Int) (x2 : Int) (σ : Mm) : Option (Int) :=
  ck ((0 : Int) ≤ x1 ∧ x1 < ((10 : Nat) : Int)) ((if (iAnd (iShr (σ.1 2 (Int.toNat x1)) x2) 1) = 0 then some 0 else some 1))
theorem hd_X3_liesBelow : yX3_liesBelow.cls = RX3 ∧ yX3_liesBelow.cls ≠ "java/lang/invoke/MethodHandle" ∧ yX3_liesBelow.cls ≠ "java/lang/invoke/VarHandle" ∧ (parseMethodDescriptor yX3_liesBelow.desc).map (fun d => d.parameters.length) = some 2 := by decide +kernel
set_option maxRecDepth 100000 in
set_option maxHeartbeats 4000000 in
theorem c_X3_liesBelow {l : Launch} {D : va_G} {ca : Nat → ClassId} {ad : Nat → Nat} {x1 : Int} {x2 : Int} (hx1 : inR x1) (hx2 : inR x2) {σ : Mm} : CtI l D vcl ca ad shC NC yX3_liesBelow (Cond.code yX3_liesBelow cX3_liesBelow 3 (some .boolean) :: tbG) { frames := 0, cells := 0, slots := 0, locals := 0 } [.ref (ad 1), .int (oi x1), .int (oi x2)] σ ((f_X3_liesBelow x1 x2 σ).map (fun r => (r, σ))) := by
  refine ct_Ip RX3 rfl (by decide) rfl (Nat.le_of_ble_eq_true rfl) (fun p e s m below meth c res X hN hr hlk => ?_)
  show GX3_liesBelow p l e s m _ below meth c D ca ad σ res 0 [(0, .ref (ad 1)), (1, .int (oi x1)), (2, .int (oi x2))] [] σ (f_X3_liesBelow x1 x2 σ)
  unfold f_X3_liesBelow
  refine q_aload_n X dX3_liesBelow_0 0 rfl ?_
  refine fg_X3_24 X dX3_liesBelow_1 ?_
  refine q_iload_n X dX3_liesBelow_4 1 rfl ?_
  refine q_iald X hC2 (by decide) dX3_liesBelow_5 (fun h1 => ?_)
  refine q_iload_n X dX3_liesBelow_6 2 rfl ?_
  refine q_ishr X dX3_liesBelow_7 ?_
  refine q_iconst X dX3_liesBelow_8 ?_
  refine q_iand X dX3_liesBelow_9 ?_
  refine q_if_eq X (oi_rng _) 17 dX3_liesBelow_10 (by decide) (fun h2 => ?_) (fun h2 => ?_)
  · refine q_iconst X dX3_liesBelow_17 ?_
    exact q_zretp X (Or.inl rfl) hr hlk dX3_liesBelow_18
  · refine q_iconst X dX3_liesBelow_13 ?_
    refine q_goto X 18 dX3_liesBelow_14 (by decide) ?_
    exact q_zretp X (Or.inr rfl) hr hlk dX3_liesBelow_18

/-! SiteObjects$Program.methodFor(II)I -/
abbrev GX3_methodFor (p : Program) (l : Launch) (e : Env) (s : State) (m : MethodId) (args : Array Value) (below : List Frame) (meth : Method) (c : Code) (D : va_G) (ca : Nat → ClassId) (ad : Nat → Nat) (σ : Mm) (res : Int) : Nat → List (Nat × Value) → List Value → Mm → Option (Int) → Prop := G p l e { frames := 0, cells := 0, slots := 0, locals := 0 } s m args below meth c (MQ below (QcI D vcl ca ad shC s.heap.size (res, σ)) args s 0 0 (Aw ad shC.length s.heap.size)) 3 D vcl ca ad shC (Aw ad shC.length s.heap.size) res
def f_X3_methodFor (x1 : Int) (x2 : Int) (σ : Mm) : Option (Int) :=
  ck ((0 : Int) ≤ ((x1 * 8) + x2) ∧ ((x1 * 8) + x2) < ((80 : Nat) : Int)) (some (σ.1 5 (Int.toNat ((x1 * 8) + x2))))
theorem hd_X3_methodFor : yX3_methodFor.cls = RX3 ∧ yX3_methodFor.cls ≠ "java/lang/invoke/MethodHandle" ∧ yX3_methodFor.cls ≠ "java/lang/invoke/VarHandle" ∧ (parseMethodDescriptor yX3_methodFor.desc).map (fun d => d.parameters.length) = some 2 := by decide +kernel
set_option maxRecDepth 100000 in
set_option maxHeartbeats 4000000 in
theorem c_X3_methodFor {l : Launch} {D : va_G} {ca : Nat → ClassId} {ad : Nat → Nat} {x1 : Int} {x2 : Int} (hx1 : inR x1) (hx2 : inR x2) {σ : Mm} : CtI l D vcl ca ad shC NC yX3_methodFor (Cond.code yX3_methodFor cX3_methodFor 3 (some .int) :: tbG) { frames := 0, cells := 0, slots := 0, locals := 0 } [.ref (ad 1), .int (oi x1), .int (oi x2)] σ ((f_X3_methodFor x1 x2 σ).map (fun r => (r, σ))) := by
  refine ct_Ip RX3 rfl (by decide) rfl (Nat.le_of_ble_eq_true rfl) (fun p e s m below meth c res X hN hr hlk => ?_)
  show GX3_methodFor p l e s m _ below meth c D ca ad σ res 0 [(0, .ref (ad 1)), (1, .int (oi x1)), (2, .int (oi x2))] [] σ (f_X3_methodFor x1 x2 σ)
  unfold f_X3_methodFor
  refine q_aload_n X dX3_methodFor_0 0 rfl ?_
  refine fg_X3_34 X dX3_methodFor_1 ?_
  refine q_iload_n X dX3_methodFor_4 1 rfl ?_
  refine q_bipush X dX3_methodFor_5 (by decide) ?_
  refine q_imul X dX3_methodFor_7 ?_
  refine q_iload_n X dX3_methodFor_8 2 rfl ?_
  refine q_iadd X dX3_methodFor_9 ?_
  refine q_iald X hC5 (by decide) dX3_methodFor_10 (fun h1 => ?_)
  exact q_iretp X h1 hr hlk dX3_methodFor_11

/-! SiteObjects$Program.covers(II)Z -/
abbrev GX3_covers (p : Program) (l : Launch) (e : Env) (s : State) (m : MethodId) (args : Array Value) (below : List Frame) (meth : Method) (c : Code) (D : va_G) (ca : Nat → ClassId) (ad : Nat → Nat) (σ : Mm) (res : Int) : Nat → List (Nat × Value) → List Value → Mm → Option (Int) → Prop := G p l e { frames := 0, cells := 0, slots := 0, locals := 0 } s m args below meth c (MQ below (QcI D vcl ca ad shC s.heap.size (res, σ)) args s 0 0 (Aw ad shC.length s.heap.size)) 3 D vcl ca ad shC (Aw ad shC.length s.heap.size) res
def f_X3_covers (x1 : Int) (x2 : Int) (σ : Mm) : Option (Int) :=
  ck ((0 : Int) ≤ x1 ∧ x1 < ((90 : Nat) : Int)) ((if (σ.1 8 (Int.toNat x1)) = 16 then ck ((0 : Int) ≤ x1 ∧ x1 < ((90 : Nat) : Int)) ((if x2 ≤ (σ.1 14 (Int.toNat x1)) then some 0 else ck ((0 : Int) ≤ x1 ∧ x1 < ((90 : Nat) : Int)) (ck ((0 : Int) ≤ x1 ∧ x1 < ((90 : Nat) : Int)) (ck (inR ((σ.1 14 (Int.toNat x1)) + (σ.1 10 (Int.toNat x1)))) ((if ((σ.1 14 (Int.toNat x1)) + (σ.1 10 (Int.toNat x1))) < x2 then some 0 else some 1)))))) else some 0))
theorem hd_X3_covers : yX3_covers.cls = RX3 ∧ yX3_covers.cls ≠ "java/lang/invoke/MethodHandle" ∧ yX3_covers.cls ≠ "java/lang/invoke/VarHandle" ∧ (parseMethodDescriptor yX3_covers.desc).map (fun d => d.parameters.length) = some 2 := by decide +kernel
set_option maxRecDepth 100000 in
set_option maxHeartbeats 4000000 in
theorem c_X3_covers {l : Launch} {D : va_G} {ca : Nat → ClassId} {ad : Nat → Nat} {x1 : Int} {x2 : Int} (hx1 : inR x1) (hx2 : inR x2) {σ : Mm} : CtI l D vcl ca ad shC NC yX3_covers (Cond.code yX3_covers cX3_covers 3 (some .boolean) :: tbG) { frames := 0, cells := 0, slots := 0, locals := 0 } [.ref (ad 1), .int (oi x1), .int (oi x2)] σ ((f_X3_covers x1 x2 σ).map (fun r => (r, σ))) := by
  refine ct_Ip RX3 rfl (by decide) rfl (Nat.le_of_ble_eq_true rfl) (fun p e s m below meth c res X hN hr hlk => ?_)
  show GX3_covers p l e s m _ below meth c D ca ad σ res 0 [(0, .ref (ad 1)), (1, .int (oi x1)), (2, .int (oi x2))] [] σ (f_X3_covers x1 x2 σ)
  unfold f_X3_covers
  refine q_aload_n X dX3_covers_0 0 rfl ?_
  refine fg_X3_43 X dX3_covers_1 ?_
  refine q_iload_n X dX3_covers_4 1 rfl ?_
  refine q_iald X hC8 (by decide) dX3_covers_5 (fun h1 => ?_)
  refine q_bipush X dX3_covers_6 (by decide) ?_
  refine q_icmp_ne X h1 (by decide) 42 dX3_covers_8 (by decide) (fun h2 => ?_) (fun h2 => ?_)
  · refine q_aload_n X dX3_covers_11 0 rfl ?_
    refine fg_X3_61 X dX3_covers_12 ?_
    refine q_iload_n X dX3_covers_15 1 rfl ?_
    refine q_iald X hC14 (by decide) dX3_covers_16 (fun h3 => ?_)
    refine q_iload_n X dX3_covers_17 2 rfl ?_
    refine q_icmp_ge X h3 hx2 42 dX3_covers_18 (by decide) (fun h4 => ?_) (fun h4 => ?_)
    · refine q_iconst X dX3_covers_42 ?_
      exact q_zretp X (Or.inl rfl) hr hlk dX3_covers_43
    · refine q_iload_n X dX3_covers_21 2 rfl ?_
      refine q_aload_n X dX3_covers_22 0 rfl ?_
      refine fg_X3_61 X dX3_covers_23 ?_
      refine q_iload_n X dX3_covers_26 1 rfl ?_
      refine q_iald X hC14 (by decide) dX3_covers_27 (fun h5 => ?_)
      refine q_aload_n X dX3_covers_28 0 rfl ?_
      refine fg_X3_49 X dX3_covers_29 ?_
      refine q_iload_n X dX3_covers_32 1 rfl ?_
      refine q_iald X hC10 (by decide) dX3_covers_33 (fun h6 => ?_)
      refine q_iadd X dX3_covers_34 ?_
      refine q_ck (fun h7 => ?_)
      refine q_icmp_gt X hx2 h7 42 dX3_covers_35 (by decide) (fun h8 => ?_) (fun h8 => ?_)
      · refine q_iconst X dX3_covers_42 ?_
        exact q_zretp X (Or.inl rfl) hr hlk dX3_covers_43
      · refine q_iconst X dX3_covers_38 ?_
        refine q_goto X 43 dX3_covers_39 (by decide) ?_
        exact q_zretp X (Or.inr rfl) hr hlk dX3_covers_43
  · refine q_iconst X dX3_covers_42 ?_
    exact q_zretp X (Or.inl rfl) hr hlk dX3_covers_43

/-! SiteObjects.isIn(II)Z -/
abbrev GX6_isIn (p : Program) (l : Launch) (e : Env) (s : State) (m : MethodId) (args : Array Value) (below : List Frame) (meth : Method) (c : Code) (D : va_G) (ca : Nat → ClassId) (ad : Nat → Nat) (σ : Mm) (res : Int) : Nat → List (Nat × Value) → List Value → Mm → Option (Int) → Prop := G p l e { frames := 0, cells := 0, slots := 0, locals := 0 } s m args below meth c (MQ below (QcI D vcl ca ad shC s.heap.size (res, σ)) args s 0 0 (Aw ad shC.length s.heap.size)) 2 D vcl ca ad shC (Aw ad shC.length s.heap.size) res
def f_X6_isIn (x0 : Int) (x1 : Int) (σ : Mm) : Option (Int) :=
  (if x0 < 0 then some 0 else (if x1 ≤ x0 then some 0 else some 1))
theorem hd_X6_isIn : yX6_isIn.cls ≠ "java/lang/invoke/MethodHandle" ∧ yX6_isIn.cls ≠ "java/lang/invoke/VarHandle" ∧ (parseMethodDescriptor yX6_isIn.desc).map (fun d => d.parameters.length) = some 2 := by decide +kernel
set_option maxRecDepth 100000 in
set_option maxHeartbeats 4000000 in
theorem c_X6_isIn {l : Launch} {D : va_G} {ca : Nat → ClassId} {ad : Nat → Nat} {x0 : Int} {x1 : Int} (hx0 : inR x0) (hx1 : inR x1) {σ : Mm} : CtI l D vcl ca ad shC NC yX6_isIn (Cond.code yX6_isIn cX6_isIn 2 (some .boolean) :: tbG) { frames := 0, cells := 0, slots := 0, locals := 0 } [.int (oi x0), .int (oi x1)] σ ((f_X6_isIn x0 x1 σ).map (fun r => (r, σ))) := by
  refine ct_Ip RX6 rfl (by decide) rfl (Nat.le_of_ble_eq_true rfl) (fun p e s m below meth c res X hN hr hlk => ?_)
  show GX6_isIn p l e s m _ below meth c D ca ad σ res 0 [(0, .int (oi x0)), (1, .int (oi x1))] [] σ (f_X6_isIn x0 x1 σ)
  unfold f_X6_isIn
  refine q_iload_n X dX6_isIn_0 0 rfl ?_
  refine q_if_lt X hx0 13 dX6_isIn_1 (by decide) (fun h1 => ?_) (fun h1 => ?_)
  · refine q_iconst X dX6_isIn_13 ?_
    exact q_zretp X (Or.inl rfl) hr hlk dX6_isIn_14
  · refine q_iload_n X dX6_isIn_4 0 rfl ?_
    refine q_iload_n X dX6_isIn_5 1 rfl ?_
    refine q_icmp_ge X hx0 hx1 13 dX6_isIn_6 (by decide) (fun h2 => ?_) (fun h2 => ?_)
    · refine q_iconst X dX6_isIn_13 ?_
      exact q_zretp X (Or.inl rfl) hr hlk dX6_isIn_14
    · refine q_iconst X dX6_isIn_9 ?_
      refine q_goto X 14 dX6_isIn_10 (by decide) ?_
      exact q_zretp X (Or.inr rfl) hr hlk dX6_isIn_14

/-! SiteObjects$Program.isLeading(I)Z -/
abbrev GX3_isLeading (p : Program) (l : Launch) (e : Env) (s : State) (m : MethodId) (args : Array Value) (below : List Frame) (meth : Method) (c : Code) (D : va_G) (ca : Nat → ClassId) (ad : Nat → Nat) (σ : Mm) (res : Int) : Nat → List (Nat × Value) → List Value → Mm → Option (Int) → Prop := G p l e { frames := 1, cells := 0, slots := 0, locals := 21 } s m args below meth c (MQ below (QcI D vcl ca ad shC s.heap.size (res, σ)) args s 0 0 (Aw ad shC.length s.heap.size)) 2 D vcl ca ad shC (Aw ad shC.length s.heap.size) res
def f_X3_isLeading (x1 : Int) (σ : Mm) : Option (Int) :=
  (f_X6_isIn x1 (σ.1 1 2) σ).bind (fun r2 => (if r2 = 0 then some 0 else ck ((0 : Int) ≤ x1 ∧ x1 < ((90 : Nat) : Int)) ((if (σ.1 8 (Int.toNat x1)) = 9 then some 1 else ck ((0 : Int) ≤ x1 ∧ x1 < ((90 : Nat) : Int)) ((if (σ.1 8 (Int.toNat x1)) = 10 then some 1 else some 0))))))
theorem hd_X3_isLeading : yX3_isLeading.cls = RX3 ∧ yX3_isLeading.cls ≠ "java/lang/invoke/MethodHandle" ∧ yX3_isLeading.cls ≠ "java/lang/invoke/VarHandle" ∧ (parseMethodDescriptor yX3_isLeading.desc).map (fun d => d.parameters.length) = some 1 := by decide +kernel
set_option maxRecDepth 100000 in
set_option maxHeartbeats 4000000 in
theorem c_X3_isLeading {l : Launch} {D : va_G} {ca : Nat → ClassId} {ad : Nat → Nat} {x1 : Int} (hx1 : inR x1) {σ : Mm} : CtI l D vcl ca ad shC NC yX3_isLeading (Cond.code yX3_isLeading cX3_isLeading 2 (some .boolean) :: tbG) { frames := 1, cells := 0, slots := 0, locals := 21 } [.ref (ad 1), .int (oi x1)] σ ((f_X3_isLeading x1 σ).map (fun r => (r, σ))) := by
  refine ct_Ip RX3 rfl (by decide) rfl (Nat.le_of_ble_eq_true rfl) (fun p e s m below meth c res X hN hr hlk => ?_)
  show GX3_isLeading p l e s m _ below meth c D ca ad σ res 0 [(0, .ref (ad 1)), (1, .int (oi x1))] [] σ (f_X3_isLeading x1 σ)
  unfold f_X3_isLeading
  refine q_iload_n X dX3_isLeading_0 1 rfl ?_
  refine q_aload_n X dX3_isLeading_1 0 rfl ?_
  refine fg_X3_18 X dX3_isLeading_2 (fun h1 => ?_)
  refine q_callIp X NCok hN Aw_new (c_X6_isIn hx1 h1) (rn_SN X ⟨va_cnB 2 X.2.2.2.2.1 (tbG_good _ (tbG_cons mw_329)) rfl rfl rfl hN.1 (X.2.2.2.2.1 _ (List.mem_cons_of_mem _ mw_1)) hd_X6_isIn ⟨by decide, by decide⟩, X.2.2.2.2.1 _ (List.mem_cons_of_mem _ mw_328), trivial⟩ rfl rfl (Nat.le_of_ble_eq_true rfl) dX3_isLeading_5) (fun r2 _ h4 => ?_)
  refine q_if_eq X h4 37 dX3_isLeading_8 (by decide) (fun h5 => ?_) (fun h5 => ?_)
  · refine q_iconst X dX3_isLeading_37 ?_
    exact q_zretp X (Or.inl rfl) hr hlk dX3_isLeading_38
  · refine q_aload_n X dX3_isLeading_11 0 rfl ?_
    refine fg_X3_43 X dX3_isLeading_12 ?_
    refine q_iload_n X dX3_isLeading_15 1 rfl ?_
    refine q_iald X hC8 (by decide) dX3_isLeading_16 (fun h6 => ?_)
    refine q_bipush X dX3_isLeading_17 (by decide) ?_
    refine q_icmp_eq X h6 (by decide) 33 dX3_isLeading_19 (by decide) (fun h7 => ?_) (fun h7 => ?_)
    · refine q_iconst X dX3_isLeading_33 ?_
      refine q_goto X 38 dX3_isLeading_34 (by decide) ?_
      exact q_zretp X (Or.inr rfl) hr hlk dX3_isLeading_38
    · refine q_aload_n X dX3_isLeading_22 0 rfl ?_
      refine fg_X3_43 X dX3_isLeading_23 ?_
      refine q_iload_n X dX3_isLeading_26 1 rfl ?_
      refine q_iald X hC8 (by decide) dX3_isLeading_27 (fun h8 => ?_)
      refine q_bipush X dX3_isLeading_28 (by decide) ?_
      refine q_icmp_ne X h8 (by decide) 37 dX3_isLeading_30 (by decide) (fun h9 => ?_) (fun h9 => ?_)
      · refine q_iconst X dX3_isLeading_33 ?_
        refine q_goto X 38 dX3_isLeading_34 (by decide) ?_
        exact q_zretp X (Or.inr rfl) hr hlk dX3_isLeading_38
      · refine q_iconst X dX3_isLeading_37 ?_
        exact q_zretp X (Or.inl rfl) hr hlk dX3_isLeading_38

/-! SiteObjects$Program.isClass(I)Z -/
abbrev GX3_isClass (p : Program) (l : Launch) (e : Env) (s : State) (m : MethodId) (args : Array Value) (below : List Frame) (meth : Method) (c : Code) (D : va_G) (ca : Nat → ClassId) (ad : Nat → Nat) (σ : Mm) (res : Int) : Nat → List (Nat × Value) → List Value → Mm → Option (Int) → Prop := G p l e { frames := 1, cells := 0, slots := 0, locals := 21 } s m args below meth c (MQ below (QcI D vcl ca ad shC s.heap.size (res, σ)) args s 0 0 (Aw ad shC.length s.heap.size)) 2 D vcl ca ad shC (Aw ad shC.length s.heap.size) res
def f_X3_isClass (x1 : Int) (σ : Mm) : Option (Int) :=
  (f_X6_isIn x1 (σ.1 1 0) σ).bind (fun r2 => ck (r2 = 0 ∨ r2 = 1) (some r2))
theorem hd_X3_isClass : yX3_isClass.cls = RX3 ∧ yX3_isClass.cls ≠ "java/lang/invoke/MethodHandle" ∧ yX3_isClass.cls ≠ "java/lang/invoke/VarHandle" ∧ (parseMethodDescriptor yX3_isClass.desc).map (fun d => d.parameters.length) = some 1 := by decide +kernel
set_option maxRecDepth 100000 in
set_option maxHeartbeats 4000000 in
theorem c_X3_isClass {l : Launch} {D : va_G} {ca : Nat → ClassId} {ad : Nat → Nat} {x1 : Int} (hx1 : inR x1) {σ : Mm} : CtI l D vcl ca ad shC NC yX3_isClass (Cond.code yX3_isClass cX3_isClass 2 (some .boolean) :: tbG) { frames := 1, cells := 0, slots := 0, locals := 21 } [.ref (ad 1), .int (oi x1)] σ ((f_X3_isClass x1 σ).map (fun r => (r, σ))) := by
  refine ct_Ip RX3 rfl (by decide) rfl (Nat.le_of_ble_eq_true rfl) (fun p e s m below meth c res X hN hr hlk => ?_)
  show GX3_isClass p l e s m _ below meth c D ca ad σ res 0 [(0, .ref (ad 1)), (1, .int (oi x1))] [] σ (f_X3_isClass x1 σ)
  unfold f_X3_isClass
  refine q_iload_n X dX3_isClass_0 1 rfl ?_
  refine q_aload_n X dX3_isClass_1 0 rfl ?_
  refine fg_X3_9 X dX3_isClass_2 (fun h1 => ?_)
  refine q_callIp X NCok hN Aw_new (c_X6_isIn hx1 h1) (rn_SN X ⟨va_cnB 2 X.2.2.2.2.1 (tbG_good _ (tbG_cons mw_329)) rfl rfl rfl hN.1 (X.2.2.2.2.1 _ (List.mem_cons_of_mem _ mw_1)) hd_X6_isIn ⟨by decide, by decide⟩, X.2.2.2.2.1 _ (List.mem_cons_of_mem _ mw_328), trivial⟩ rfl rfl (Nat.le_of_ble_eq_true rfl) dX3_isClass_5) (fun r2 _ h4 => ?_)
  refine q_ck (fun h5 => ?_)
  exact q_zretp X h5 hr hlk dX3_isClass_8

/-! SiteObjects$Program.isMethod(I)Z -/
abbrev GX3_isMethod (p : Program) (l : Launch) (e : Env) (s : State) (m : MethodId) (args : Array Value) (below : List Frame) (meth : Method) (c : Code) (D : va_G) (ca : Nat → ClassId) (ad : Nat → Nat) (σ : Mm) (res : Int) : Nat → List (Nat × Value) → List Value → Mm → Option (Int) → Prop := G p l e { frames := 1, cells := 0, slots := 0, locals := 21 } s m args below meth c (MQ below (QcI D vcl ca ad shC s.heap.size (res, σ)) args s 0 0 (Aw ad shC.length s.heap.size)) 2 D vcl ca ad shC (Aw ad shC.length s.heap.size) res
def f_X3_isMethod (x1 : Int) (σ : Mm) : Option (Int) :=
  (f_X6_isIn x1 (σ.1 1 1) σ).bind (fun r2 => ck (r2 = 0 ∨ r2 = 1) (some r2))
theorem hd_X3_isMethod : yX3_isMethod.cls = RX3 ∧ yX3_isMethod.cls ≠ "java/lang/invoke/MethodHandle" ∧ yX3_isMethod.cls ≠ "java/lang/invoke/VarHandle" ∧ (parseMethodDescriptor yX3_isMethod.desc).map (fun d => d.parameters.length) = some 1 := by decide +kernel
set_option maxRecDepth 100000 in
set_option maxHeartbeats 4000000 in
theorem c_X3_isMethod {l : Launch} {D : va_G} {ca : Nat → ClassId} {ad : Nat → Nat} {x1 : Int} (hx1 : inR x1) {σ : Mm} : CtI l D vcl ca ad shC NC yX3_isMethod (Cond.code yX3_isMethod cX3_isMethod 2 (some .boolean) :: tbG) { frames := 1, cells := 0, slots := 0, locals := 21 } [.ref (ad 1), .int (oi x1)] σ ((f_X3_isMethod x1 σ).map (fun r => (r, σ))) := by
  refine ct_Ip RX3 rfl (by decide) rfl (Nat.le_of_ble_eq_true rfl) (fun p e s m below meth c res X hN hr hlk => ?_)
  show GX3_isMethod p l e s m _ below meth c D ca ad σ res 0 [(0, .ref (ad 1)), (1, .int (oi x1))] [] σ (f_X3_isMethod x1 σ)
  unfold f_X3_isMethod
  refine q_iload_n X dX3_isMethod_0 1 rfl ?_
  refine q_aload_n X dX3_isMethod_1 0 rfl ?_
  refine fg_X3_15 X dX3_isMethod_2 (fun h1 => ?_)
  refine q_callIp X NCok hN Aw_new (c_X6_isIn hx1 h1) (rn_SN X ⟨va_cnB 2 X.2.2.2.2.1 (tbG_good _ (tbG_cons mw_329)) rfl rfl rfl hN.1 (X.2.2.2.2.1 _ (List.mem_cons_of_mem _ mw_1)) hd_X6_isIn ⟨by decide, by decide⟩, X.2.2.2.2.1 _ (List.mem_cons_of_mem _ mw_328), trivial⟩ rfl rfl (Nat.le_of_ble_eq_true rfl) dX3_isMethod_5) (fun r2 _ h4 => ?_)
  refine q_ck (fun h5 => ?_)
  exact q_zretp X h5 hr hlk dX3_isMethod_8

/-! SiteObjects$Program.isStatic(I)Z -/
abbrev GX3_isStatic (p : Program) (l : Launch) (e : Env) (s : State) (m : MethodId) (args : Array Value) (below : List Frame) (meth : Method) (c : Code) (D : va_G) (ca : Nat → ClassId) (ad : Nat → Nat) (σ : Mm) (res : Int) : Nat → List (Nat × Value) → List Value → Mm → Option (Int) → Prop := G p l e { frames := 2, cells := 0, slots := 0, locals := 42 } s m args below meth c (MQ below (QcI D vcl ca ad shC s.heap.size (res, σ)) args s 0 0 (Aw ad shC.length s.heap.size)) 2 D vcl ca ad shC (Aw ad shC.length s.heap.size) res
def f_X3_isStatic (x1 : Int) (σ : Mm) : Option (Int) :=
  (f_X3_isMethod x1 σ).bind (fun r1 => (if r1 = 0 then some 0 else ck ((0 : Int) ≤ x1 ∧ x1 < ((12 : Nat) : Int)) ((if 0 ≤ (σ.1 3 (Int.toNat x1)) then some 0 else some 1))))
theorem hd_X3_isStatic : yX3_isStatic.cls = RX3 ∧ yX3_isStatic.cls ≠ "java/lang/invoke/MethodHandle" ∧ yX3_isStatic.cls ≠ "java/lang/invoke/VarHandle" ∧ (parseMethodDescriptor yX3_isStatic.desc).map (fun d => d.parameters.length) = some 1 := by decide +kernel
set_option maxRecDepth 100000 in
set_option maxHeartbeats 4000000 in
theorem c_X3_isStatic {l : Launch} {D : va_G} {ca : Nat → ClassId} {ad : Nat → Nat} {x1 : Int} (hx1 : inR x1) {σ : Mm} : CtI l D vcl ca ad shC NC yX3_isStatic (Cond.code yX3_isStatic cX3_isStatic 2 (some .boolean) :: tbG) { frames := 2, cells := 0, slots := 0, locals := 42 } [.ref (ad 1), .int (oi x1)] σ ((f_X3_isStatic x1 σ).map (fun r => (r, σ))) := by
  refine ct_Ip RX3 rfl (by decide) rfl (Nat.le_of_ble_eq_true rfl) (fun p e s m below meth c res X hN hr hlk => ?_)
  show GX3_isStatic p l e s m _ below meth c D ca ad σ res 0 [(0, .ref (ad 1)), (1, .int (oi x1))] [] σ (f_X3_isStatic x1 σ)
  unfold f_X3_isStatic
  refine q_aload_n X dX3_isStatic_0 0 rfl ?_
  refine q_iload_n X dX3_isStatic_1 1 rfl ?_
  refine q_callIp X NCok hN Aw_new (c_X3_isMethod hx1) (rn_V X (cwV 1 X.2.2.2.2.1 (tbG_good _ (tbG_V mw_381 mw_367 mw_368 mw_2 mw_369)) rfl rfl rfl hd_X3_isMethod ⟨by decide, by decide⟩) hC1 rfl rfl rfl (Nat.le_of_ble_eq_true rfl) dX3_isStatic_2) (fun r1 _ h3 => ?_)
  refine q_if_eq X h3 21 dX3_isStatic_5 (by decide) (fun h4 => ?_) (fun h4 => ?_)
  · refine q_iconst X dX3_isStatic_21 ?_
    exact q_zretp X (Or.inl rfl) hr hlk dX3_isStatic_22
  · refine q_aload_n X dX3_isStatic_8 0 rfl ?_
    refine fg_X3_28 X dX3_isStatic_9 ?_
    refine q_iload_n X dX3_isStatic_12 1 rfl ?_
    refine q_iald X hC3 (by decide) dX3_isStatic_13 (fun h5 => ?_)
    refine q_if_ge X h5 21 dX3_isStatic_14 (by decide) (fun h6 => ?_) (fun h6 => ?_)
    · refine q_iconst X dX3_isStatic_21 ?_
      exact q_zretp X (Or.inl rfl) hr hlk dX3_isStatic_22
    · refine q_iconst X dX3_isStatic_17 ?_
      refine q_goto X 22 dX3_isStatic_18 (by decide) ?_
      exact q_zretp X (Or.inr rfl) hr hlk dX3_isStatic_22

/-! SiteObjects$Program.isFreeFor(II)Z -/
abbrev GX3_isFreeFor (p : Program) (l : Launch) (e : Env) (s : State) (m : MethodId) (args : Array Value) (below : List Frame) (meth : Method) (c : Code) (D : va_G) (ca : Nat → ClassId) (ad : Nat → Nat) (σ : Mm) (res : Int) : Nat → List (Nat × Value) → List Value → Mm → Option (Int) → Prop := G p l e { frames := 2, cells := 0, slots := 0, locals := 42 } s m args below meth c (MQ below (QcI D vcl ca ad shC s.heap.size (res, σ)) args s 0 0 (Aw ad shC.length s.heap.size)) 4 D vcl ca ad shC (Aw ad shC.length s.heap.size) res
def f_X3_isFreeFor_21 : Nat → Int → Int → Int → Mm → Option (Int)
  | 0, _, _, _, _ => none
  | n + 1, x1, x2, x3, σ => (if (σ.1 1 1) ≤ x3 then some 1 else ck ((0 : Int) ≤ x3 ∧ x3 < ((12 : Nat) : Int)) ((if (σ.1 3 (Int.toNat x3)) = x1 then ck ((0 : Int) ≤ x3 ∧ x3 < ((12 : Nat) : Int)) ((if (σ.1 4 (Int.toNat x3)) = x2 then some 0 else ck (inR (x3 + 1)) (f_X3_isFreeFor_21 n x1 x2 (x3 + 1) σ))) else ck (inR (x3 + 1)) (f_X3_isFreeFor_21 n x1 x2 (x3 + 1) σ))))
set_option maxRecDepth 100000 in
set_option maxHeartbeats 4000000 in
theorem t_X3_isFreeFor_21 {p : Program} {l : Launch} {e : Env} {s : State} {m : MethodId} {args : Array Value} {below : List Frame} {meth : Method} {c : Code} {D : va_G} {ca : Nat → ClassId} {ad : Nat → Nat} {σ : Mm} {res : Int} (X : Cx p s m args c cX3_isFreeFor 4 RX3 (Cond.code yX3_isFreeFor cX3_isFreeFor 4 (some .boolean) :: tbG) D vcl ca) (hN : NC s) (hr : meth.sig.returnType = (some .boolean)) (hlk : meth.locks = false) : ∀ (n : Nat) (x1 : Int) (x2 : Int) (x3 : Int), inR x1 → inR x2 → inR x3 → GX3_isFreeFor p l e s m args below meth c D ca ad σ res 21 [(0, .ref (ad 1)), (1, .int (oi x1)), (2, .int (oi x2)), (3, .int (oi x3))] [] σ (f_X3_isFreeFor_21 n x1 x2 x3 σ)
  := by
  intro n
  induction n with
  | zero => intro x1 x2 x3 hx1 hx2 hx3 h; cases h
  | succ n ih =>
    intro x1 x2 x3 hx1 hx2 hx3
    rw [f_X3_isFreeFor_21]
    refine q_iload_n X dX3_isFreeFor_21 3 rfl ?_
    refine q_aload_n X dX3_isFreeFor_22 0 rfl ?_
    refine fg_X3_15 X dX3_isFreeFor_23 (fun h1 => ?_)
    refine q_icmp_ge X hx3 h1 57 dX3_isFreeFor_26 (by decide) (fun h2 => ?_) (fun h2 => ?_)
    · refine q_iconst X dX3_isFreeFor_57 ?_
      exact q_zretp X (Or.inr rfl) hr hlk dX3_isFreeFor_58
    · refine q_aload_n X dX3_isFreeFor_29 0 rfl ?_
      refine fg_X3_28 X dX3_isFreeFor_30 ?_
      refine q_iload_n X dX3_isFreeFor_33 3 rfl ?_
      refine q_iald X hC3 (by decide) dX3_isFreeFor_34 (fun h3 => ?_)
      refine q_iload_n X dX3_isFreeFor_35 1 rfl ?_
      refine q_icmp_ne X h3 hx1 51 dX3_isFreeFor_36 (by decide) (fun h4 => ?_) (fun h4 => ?_)
      · refine q_aload_n X dX3_isFreeFor_39 0 rfl ?_
        refine fg_X3_31 X dX3_isFreeFor_40 ?_
        refine q_iload_n X dX3_isFreeFor_43 3 rfl ?_
        refine q_iald X hC4 (by decide) dX3_isFreeFor_44 (fun h5 => ?_)
        refine q_iload_n X dX3_isFreeFor_45 2 rfl ?_
        refine q_icmp_ne X h5 hx2 51 dX3_isFreeFor_46 (by decide) (fun h6 => ?_) (fun h6 => ?_)
        · refine q_iconst X dX3_isFreeFor_49 ?_
          exact q_zretp X (Or.inl rfl) hr hlk dX3_isFreeFor_50
        · refine q_iinc X [(3, .int (oi (x3 + 1))), (0, .ref (ad 1)), (1, .int (oi x1)), (2, .int (oi x2))] dX3_isFreeFor_51 (by decide) 3 rfl rfl (fun h7 => ?_)
          refine q_goto X 21 dX3_isFreeFor_54 (by decide) ?_
          refine q_sub [(0, .ref (ad 1)), (1, .int (oi x1)), (2, .int (oi x2)), (3, .int (oi (x3 + 1)))] [1, 2, 3, 0] rfl ?_
          exact ih x1 x2 (x3 + 1) hx1 hx2 h7
      · refine q_iinc X [(3, .int (oi (x3 + 1))), (0, .ref (ad 1)), (1, .int (oi x1)), (2, .int (oi x2))] dX3_isFreeFor_51 (by decide) 3 rfl rfl (fun h8 => ?_)
        refine q_goto X 21 dX3_isFreeFor_54 (by decide) ?_
        refine q_sub [(0, .ref (ad 1)), (1, .int (oi x1)), (2, .int (oi x2)), (3, .int (oi (x3 + 1)))] [1, 2, 3, 0] rfl ?_
        exact ih x1 x2 (x3 + 1) hx1 hx2 h8
def f_X3_isFreeFor (x1 : Int) (x2 : Int) (σ : Mm) : Option (Int) :=
  (f_X3_isClass x1 σ).bind (fun r9 => (if r9 = 0 then some 0 else (f_X6_isIn x2 8 σ).bind (fun r13 => (if r13 = 0 then some 0 else f_X3_isFreeFor_21 2000 x1 x2 0 σ))))
theorem hd_X3_isFreeFor : yX3_isFreeFor.cls = RX3 ∧ yX3_isFreeFor.cls ≠ "java/lang/invoke/MethodHandle" ∧ yX3_isFreeFor.cls ≠ "java/lang/invoke/VarHandle" ∧ (parseMethodDescriptor yX3_isFreeFor.desc).map (fun d => d.parameters.length) = some 2 := by decide +kernel
set_option maxRecDepth 100000 in
set_option maxHeartbeats 4000000 in
theorem c_X3_isFreeFor {l : Launch} {D : va_G} {ca : Nat → ClassId} {ad : Nat → Nat} {x1 : Int} {x2 : Int} (hx1 : inR x1) (hx2 : inR x2) {σ : Mm} : CtI l D vcl ca ad shC NC yX3_isFreeFor (Cond.code yX3_isFreeFor cX3_isFreeFor 4 (some .boolean) :: tbG) { frames := 2, cells := 0, slots := 0, locals := 42 } [.ref (ad 1), .int (oi x1), .int (oi x2)] σ ((f_X3_isFreeFor x1 x2 σ).map (fun r => (r, σ))) := by
  refine ct_Ip RX3 rfl (by decide) rfl (Nat.le_of_ble_eq_true rfl) (fun p e s m below meth c res X hN hr hlk => ?_)
  show GX3_isFreeFor p l e s m _ below meth c D ca ad σ res 0 [(0, .ref (ad 1)), (1, .int (oi x1)), (2, .int (oi x2))] [] σ (f_X3_isFreeFor x1 x2 σ)
  unfold f_X3_isFreeFor
  refine q_aload_n X dX3_isFreeFor_0 0 rfl ?_
  refine q_iload_n X dX3_isFreeFor_1 1 rfl ?_
  refine q_callIp X NCok hN Aw_new (c_X3_isClass hx1) (rn_V X (cwV 1 X.2.2.2.2.1 (tbG_good _ (tbG_V mw_349 mw_324 mw_325 mw_2 mw_326)) rfl rfl rfl hd_X3_isClass ⟨by decide, by decide⟩) hC1 rfl rfl rfl (Nat.le_of_ble_eq_true rfl) dX3_isFreeFor_2) (fun r9 _ h11 => ?_)
  refine q_if_eq X h11 17 dX3_isFreeFor_5 (by decide) (fun h12 => ?_) (fun h12 => ?_)
  · refine q_iconst X dX3_isFreeFor_17 ?_
    exact q_zretp X (Or.inl rfl) hr hlk dX3_isFreeFor_18
  · refine q_iload_n X dX3_isFreeFor_8 2 rfl ?_
    refine q_bipush X dX3_isFreeFor_9 (by decide) ?_
    refine q_callIp X NCok hN Aw_new (c_X6_isIn hx2 (by decide)) (rn_SN X ⟨va_cnB 2 X.2.2.2.2.1 (tbG_good _ (tbG_cons mw_329)) rfl rfl rfl hN.1 (X.2.2.2.2.1 _ (List.mem_cons_of_mem _ mw_1)) hd_X6_isIn ⟨by decide, by decide⟩, X.2.2.2.2.1 _ (List.mem_cons_of_mem _ mw_328), trivial⟩ rfl rfl (Nat.le_of_ble_eq_true rfl) dX3_isFreeFor_11) (fun r13 _ h15 => ?_)
    refine q_if_ne X h15 19 dX3_isFreeFor_14 (by decide) (fun h16 => ?_) (fun h16 => ?_)
    · refine q_iconst X dX3_isFreeFor_17 ?_
      exact q_zretp X (Or.inl rfl) hr hlk dX3_isFreeFor_18
    · refine q_iconst X dX3_isFreeFor_19 ?_
      refine q_istore_n X [(3, .int (oi 0)), (0, .ref (ad 1)), (1, .int (oi x1)), (2, .int (oi x2))] dX3_isFreeFor_20 (by decide) rfl ?_
      refine q_sub [(0, .ref (ad 1)), (1, .int (oi x1)), (2, .int (oi x2)), (3, .int (oi 0))] [1, 2, 3, 0] rfl ?_
      exact t_X3_isFreeFor_21 X hN hr hlk 2000 x1 x2 0 hx1 hx2 (by decide)

/-! SiteObjects$Program.isOfSort(II)Z -/
abbrev GX3_isOfSort (p : Program) (l : Launch) (e : Env) (s : State) (m : MethodId) (args : Array Value) (below : List Frame) (meth : Method) (c : Code) (D : va_G) (ca : Nat → ClassId) (ad : Nat → Nat) (σ : Mm) (res : Int) : Nat → List (Nat × Value) → List Value → Mm → Option (Int) → Prop := G p l e { frames := 3, cells := 0, slots := 0, locals := 63 } s m args below meth c (MQ below (QcI D vcl ca ad shC s.heap.size (res, σ)) args s 0 0 (Aw ad shC.length s.heap.size)) 3 D vcl ca ad shC (Aw ad shC.length s.heap.size) res
def f_X3_isOfSort (x1 : Int) (x2 : Int) (σ : Mm) : Option (Int) :=
  (if x1 = 1 then (f_X6_isIn x2 6 σ).bind (fun r2 => ck (r2 = 0 ∨ r2 = 1) (some r2)) else (if x1 = 2 then (f_X3_isClass x2 σ).bind (fun r7 => ck (r7 = 0 ∨ r7 = 1) (some r7)) else (if x1 = 3 then (f_X6_isIn x2 4 σ).bind (fun r12 => ck (r12 = 0 ∨ r12 = 1) (some r12)) else (if x1 = 4 then (f_X6_isIn x2 8 σ).bind (fun r17 => ck (r17 = 0 ∨ r17 = 1) (some r17)) else (if x1 = 5 then (f_X6_isIn x2 6 σ).bind (fun r22 => ck (r22 = 0 ∨ r22 = 1) (some r22)) else (if x1 = 6 then (f_X6_isIn x2 8 σ).bind (fun r27 => ck (r27 = 0 ∨ r27 = 1) (some r27)) else (if x1 = 7 then (f_X3_isStatic x2 σ).bind (fun r32 => ck (r32 = 0 ∨ r32 = 1) (some r32)) else (if x1 = 8 then (if x2 < 1 then some 0 else (if 30 < x2 then some 0 else some 1)) else (if x1 = 9 then (f_X6_isIn x2 4 σ).bind (fun r40 => ck (r40 = 0 ∨ r40 = 1) (some r40)) else some 1)))))))))
theorem hd_X3_isOfSort : yX3_isOfSort.cls = RX3 ∧ yX3_isOfSort.cls ≠ "java/lang/invoke/MethodHandle" ∧ yX3_isOfSort.cls ≠ "java/lang/invoke/VarHandle" ∧ (parseMethodDescriptor yX3_isOfSort.desc).map (fun d => d.parameters.length) = some 2 := by decide +kernel
set_option maxRecDepth 100000 in
set_option maxHeartbeats 4000000 in
theorem c_X3_isOfSort {l : Launch} {D : va_G} {ca : Nat → ClassId} {ad : Nat → Nat} {x1 : Int} {x2 : Int} (hx1 : inR x1) (hx2 : inR x2) {σ : Mm} : CtI l D vcl ca ad shC NC yX3_isOfSort (Cond.code yX3_isOfSort cX3_isOfSort 3 (some .boolean) :: tbG) { frames := 3, cells := 0, slots := 0, locals := 63 } [.ref (ad 1), .int (oi x1), .int (oi x2)] σ ((f_X3_isOfSort x1 x2 σ).map (fun r => (r, σ))) := by
  refine ct_Ip RX3 rfl (by decide) rfl (Nat.le_of_ble_eq_true rfl) (fun p e s m below meth c res X hN hr hlk => ?_)
  show GX3_isOfSort p l e s m _ below meth c D ca ad σ res 0 [(0, .ref (ad 1)), (1, .int (oi x1)), (2, .int (oi x2))] [] σ (f_X3_isOfSort x1 x2 σ)
  unfold f_X3_isOfSort
  refine q_iload_n X dX3_isOfSort_0 1 rfl ?_
  refine q_ite (fun h1 => ?_) (fun h1 => ?_)
  · refine q_tswIn X hx1 1 51 52 h1 dX3_isOfSort_1 (by decide) rfl (by decide) ?_
    refine q_iload_n X dX3_isOfSort_52 2 rfl ?_
    refine q_bipush X dX3_isOfSort_53 (by decide) ?_
    refine q_callIp X NCok hN Aw_new (c_X6_isIn hx2 (by decide)) (rn_SN X ⟨va_cnB 2 X.2.2.2.2.1 (tbG_good _ (tbG_cons mw_329)) rfl rfl rfl hN.1 (X.2.2.2.2.1 _ (List.mem_cons_of_mem _ mw_1)) hd_X6_isIn ⟨by decide, by decide⟩, X.2.2.2.2.1 _ (List.mem_cons_of_mem _ mw_328), trivial⟩ rfl rfl (Nat.le_of_ble_eq_true rfl) dX3_isOfSort_55) (fun r2 _ h4 => ?_)
    refine q_ck (fun h5 => ?_)
    exact q_zretp X h5 hr hlk dX3_isOfSort_58
  · refine q_ite (fun h6 => ?_) (fun h6 => ?_)
    · refine q_tswIn X hx1 2 58 59 h6 dX3_isOfSort_1 (by decide) rfl (by decide) ?_
      refine q_aload_n X dX3_isOfSort_59 0 rfl ?_
      refine q_iload_n X dX3_isOfSort_60 2 rfl ?_
      refine q_callIp X NCok hN Aw_new (c_X3_isClass hx2) (rn_V X (cwV 1 X.2.2.2.2.1 (tbG_good _ (tbG_V mw_349 mw_324 mw_325 mw_2 mw_326)) rfl rfl rfl hd_X3_isClass ⟨by decide, by decide⟩) hC1 rfl rfl rfl (Nat.le_of_ble_eq_true rfl) dX3_isOfSort_61) (fun r7 _ h9 => ?_)
      refine q_ck (fun h10 => ?_)
      exact q_zretp X h10 hr hlk dX3_isOfSort_64
    · refine q_ite (fun h11 => ?_) (fun h11 => ?_)
      · refine q_tswIn X hx1 3 64 65 h11 dX3_isOfSort_1 (by decide) rfl (by decide) ?_
        refine q_iload_n X dX3_isOfSort_65 2 rfl ?_
        refine q_iconst X dX3_isOfSort_66 ?_
        refine q_callIp X NCok hN Aw_new (c_X6_isIn hx2 (by decide)) (rn_SN X ⟨va_cnB 2 X.2.2.2.2.1 (tbG_good _ (tbG_cons mw_329)) rfl rfl rfl hN.1 (X.2.2.2.2.1 _ (List.mem_cons_of_mem _ mw_1)) hd_X6_isIn ⟨by decide, by decide⟩, X.2.2.2.2.1 _ (List.mem_cons_of_mem _ mw_328), trivial⟩ rfl rfl (Nat.le_of_ble_eq_true rfl) dX3_isOfSort_67) (fun r12 _ h14 => ?_)
        refine q_ck (fun h15 => ?_)
        exact q_zretp X h15 hr hlk dX3_isOfSort_70
      · refine q_ite (fun h16 => ?_) (fun h16 => ?_)
        · refine q_tswIn X hx1 4 70 71 h16 dX3_isOfSort_1 (by decide) rfl (by decide) ?_
          refine q_iload_n X dX3_isOfSort_71 2 rfl ?_
          refine q_bipush X dX3_isOfSort_72 (by decide) ?_
          refine q_callIp X NCok hN Aw_new (c_X6_isIn hx2 (by decide)) (rn_SN X ⟨va_cnB 2 X.2.2.2.2.1 (tbG_good _ (tbG_cons mw_329)) rfl rfl rfl hN.1 (X.2.2.2.2.1 _ (List.mem_cons_of_mem _ mw_1)) hd_X6_isIn ⟨by decide, by decide⟩, X.2.2.2.2.1 _ (List.mem_cons_of_mem _ mw_328), trivial⟩ rfl rfl (Nat.le_of_ble_eq_true rfl) dX3_isOfSort_74) (fun r17 _ h19 => ?_)
          refine q_ck (fun h20 => ?_)
          exact q_zretp X h20 hr hlk dX3_isOfSort_77
        · refine q_ite (fun h21 => ?_) (fun h21 => ?_)
          · refine q_tswIn X hx1 5 77 78 h21 dX3_isOfSort_1 (by decide) rfl (by decide) ?_
            refine q_iload_n X dX3_isOfSort_78 2 rfl ?_
            refine q_bipush X dX3_isOfSort_79 (by decide) ?_
            refine q_callIp X NCok hN Aw_new (c_X6_isIn hx2 (by decide)) (rn_SN X ⟨va_cnB 2 X.2.2.2.2.1 (tbG_good _ (tbG_cons mw_329)) rfl rfl rfl hN.1 (X.2.2.2.2.1 _ (List.mem_cons_of_mem _ mw_1)) hd_X6_isIn ⟨by decide, by decide⟩, X.2.2.2.2.1 _ (List.mem_cons_of_mem _ mw_328), trivial⟩ rfl rfl (Nat.le_of_ble_eq_true rfl) dX3_isOfSort_81) (fun r22 _ h24 => ?_)
            refine q_ck (fun h25 => ?_)
            exact q_zretp X h25 hr hlk dX3_isOfSort_84
          · refine q_ite (fun h26 => ?_) (fun h26 => ?_)
            · refine q_tswIn X hx1 6 84 85 h26 dX3_isOfSort_1 (by decide) rfl (by decide) ?_
              refine q_iload_n X dX3_isOfSort_85 2 rfl ?_
              refine q_bipush X dX3_isOfSort_86 (by decide) ?_
              refine q_callIp X NCok hN Aw_new (c_X6_isIn hx2 (by decide)) (rn_SN X ⟨va_cnB 2 X.2.2.2.2.1 (tbG_good _ (tbG_cons mw_329)) rfl rfl rfl hN.1 (X.2.2.2.2.1 _ (List.mem_cons_of_mem _ mw_1)) hd_X6_isIn ⟨by decide, by decide⟩, X.2.2.2.2.1 _ (List.mem_cons_of_mem _ mw_328), trivial⟩ rfl rfl (Nat.le_of_ble_eq_true rfl) dX3_isOfSort_88) (fun r27 _ h29 => ?_)
              refine q_ck (fun h30 => ?_)
              exact q_zretp X h30 hr hlk dX3_isOfSort_91
            · refine q_ite (fun h31 => ?_) (fun h31 => ?_)
              · refine q_tswIn X hx1 7 91 92 h31 dX3_isOfSort_1 (by decide) rfl (by decide) ?_
                refine q_aload_n X dX3_isOfSort_92 0 rfl ?_
                refine q_iload_n X dX3_isOfSort_93 2 rfl ?_
                refine q_callIp X NCok hN Aw_new (c_X3_isStatic hx2) (rn_V X (cwV 1 X.2.2.2.2.1 (tbG_good _ (tbG_V mw_377 mw_378 mw_379 mw_2 mw_380)) rfl rfl rfl hd_X3_isStatic ⟨by decide, by decide⟩) hC1 rfl rfl rfl (Nat.le_of_ble_eq_true rfl) dX3_isOfSort_94) (fun r32 _ h34 => ?_)
                refine q_ck (fun h35 => ?_)
                exact q_zretp X h35 hr hlk dX3_isOfSort_97
              · refine q_ite (fun h36 => ?_) (fun h36 => ?_)
                · refine q_tswIn X hx1 8 97 98 h36 dX3_isOfSort_1 (by decide) rfl (by decide) ?_
                  refine q_iload_n X dX3_isOfSort_98 2 rfl ?_
                  refine q_iconst X dX3_isOfSort_99 ?_
                  refine q_icmp_lt X hx2 (by decide) 113 dX3_isOfSort_100 (by decide) (fun h37 => ?_) (fun h37 => ?_)
                  · refine q_iconst X dX3_isOfSort_113 ?_
                    exact q_zretp X (Or.inl rfl) hr hlk dX3_isOfSort_114
                  · refine q_iload_n X dX3_isOfSort_103 2 rfl ?_
                    refine q_bipush X dX3_isOfSort_104 (by decide) ?_
                    refine q_icmp_gt X hx2 (by decide) 113 dX3_isOfSort_106 (by decide) (fun h38 => ?_) (fun h38 => ?_)
                    · refine q_iconst X dX3_isOfSort_113 ?_
                      exact q_zretp X (Or.inl rfl) hr hlk dX3_isOfSort_114
                    · refine q_iconst X dX3_isOfSort_109 ?_
                      refine q_goto X 114 dX3_isOfSort_110 (by decide) ?_
                      exact q_zretp X (Or.inr rfl) hr hlk dX3_isOfSort_114
                · refine q_ite (fun h39 => ?_) (fun h39 => ?_)
                  · refine q_tswIn X hx1 9 114 115 h39 dX3_isOfSort_1 (by decide) rfl (by decide) ?_
                    refine q_iload_n X dX3_isOfSort_115 2 rfl ?_
                    refine q_iconst X dX3_isOfSort_116 ?_
                    refine q_callIp X NCok hN Aw_new (c_X6_isIn hx2 (by decide)) (rn_SN X ⟨va_cnB 2 X.2.2.2.2.1 (tbG_good _ (tbG_cons mw_329)) rfl rfl rfl hN.1 (X.2.2.2.2.1 _ (List.mem_cons_of_mem _ mw_1)) hd_X6_isIn ⟨by decide, by decide⟩, X.2.2.2.2.1 _ (List.mem_cons_of_mem _ mw_328), trivial⟩ rfl rfl (Nat.le_of_ble_eq_true rfl) dX3_isOfSort_117) (fun r40 _ h42 => ?_)
                    refine q_ck (fun h43 => ?_)
                    exact q_zretp X h43 hr hlk dX3_isOfSort_120
                  · refine q_tswOut X hx1 121 (by omega) dX3_isOfSort_1 (by decide) ?_
                    refine q_iconst X dX3_isOfSort_121 ?_
                    exact q_zretp X (Or.inr rfl) hr hlk dX3_isOfSort_122

/-! SiteObjects$Program.hasRoomFor(I)Z -/
abbrev GX3_hasRoomFor (p : Program) (l : Launch) (e : Env) (s : State) (m : MethodId) (args : Array Value) (below : List Frame) (meth : Method) (c : Code) (D : va_G) (ca : Nat → ClassId) (ad : Nat → Nat) (σ : Mm) (res : Int) : Nat → List (Nat × Value) → List Value → Mm → Option (Int) → Prop := G p l e { frames := 0, cells := 0, slots := 0, locals := 0 } s m args below meth c (MQ below (QcI D vcl ca ad shC s.heap.size (res, σ)) args s 0 0 (Aw ad shC.length s.heap.size)) 2 D vcl ca ad shC (Aw ad shC.length s.heap.size) res
def f_X3_hasRoomFor (x1 : Int) (σ : Mm) : Option (Int) :=
  (if 90 ≤ (σ.1 1 2) then some 0 else (if 1 < x1 then some 1 else (if 55 ≤ (σ.1 1 3) then some 0 else some 1)))
theorem hd_X3_hasRoomFor : yX3_hasRoomFor.cls = RX3 ∧ yX3_hasRoomFor.cls ≠ "java/lang/invoke/MethodHandle" ∧ yX3_hasRoomFor.cls ≠ "java/lang/invoke/VarHandle" ∧ (parseMethodDescriptor yX3_hasRoomFor.desc).map (fun d => d.parameters.length) = some 1 := by decide +kernel
set_option maxRecDepth 100000 in
set_option maxHeartbeats 4000000 in
theorem c_X3_hasRoomFor {l : Launch} {D : va_G} {ca : Nat → ClassId} {ad : Nat → Nat} {x1 : Int} (hx1 : inR x1) {σ : Mm} : CtI l D vcl ca ad shC NC yX3_hasRoomFor (Cond.code yX3_hasRoomFor cX3_hasRoomFor 2 (some .boolean) :: tbG) { frames := 0, cells := 0, slots := 0, locals := 0 } [.ref (ad 1), .int (oi x1)] σ ((f_X3_hasRoomFor x1 σ).map (fun r => (r, σ))) := by
  refine ct_Ip RX3 rfl (by decide) rfl (Nat.le_of_ble_eq_true rfl) (fun p e s m below meth c res X hN hr hlk => ?_)
  show GX3_hasRoomFor p l e s m _ below meth c D ca ad σ res 0 [(0, .ref (ad 1)), (1, .int (oi x1))] [] σ (f_X3_hasRoomFor x1 σ)
  unfold f_X3_hasRoomFor
  refine q_aload_n X dX3_hasRoomFor_0 0 rfl ?_
  refine fg_X3_18 X dX3_hasRoomFor_1 (fun h1 => ?_)
  refine q_bipush X dX3_hasRoomFor_4 (by decide) ?_
  refine q_icmp_ge X h1 (by decide) 27 dX3_hasRoomFor_6 (by decide) (fun h2 => ?_) (fun h2 => ?_)
  · refine q_iconst X dX3_hasRoomFor_27 ?_
    exact q_zretp X (Or.inl rfl) hr hlk dX3_hasRoomFor_28
  · refine q_iload_n X dX3_hasRoomFor_9 1 rfl ?_
    refine q_iconst X dX3_hasRoomFor_10 ?_
    refine q_icmp_gt X hx1 (by decide) 23 dX3_hasRoomFor_11 (by decide) (fun h3 => ?_) (fun h3 => ?_)
    · refine q_iconst X dX3_hasRoomFor_23 ?_
      refine q_goto X 28 dX3_hasRoomFor_24 (by decide) ?_
      exact q_zretp X (Or.inr rfl) hr hlk dX3_hasRoomFor_28
    · refine q_aload_n X dX3_hasRoomFor_14 0 rfl ?_
      refine fg_X3_21 X dX3_hasRoomFor_15 (fun h4 => ?_)
      refine q_bipush X dX3_hasRoomFor_18 (by decide) ?_
      refine q_icmp_ge X h4 (by decide) 27 dX3_hasRoomFor_20 (by decide) (fun h5 => ?_) (fun h5 => ?_)
      · refine q_iconst X dX3_hasRoomFor_27 ?_
        exact q_zretp X (Or.inl rfl) hr hlk dX3_hasRoomFor_28
      · refine q_iconst X dX3_hasRoomFor_23 ?_
        refine q_goto X 28 dX3_hasRoomFor_24 (by decide) ?_
        exact q_zretp X (Or.inr rfl) hr hlk dX3_hasRoomFor_28

/-! SiteObjects$Program.addClass(I)I -/
abbrev GX3_addClass (p : Program) (l : Launch) (e : Env) (s : State) (m : MethodId) (args : Array Value) (below : List Frame) (meth : Method) (c : Code) (D : va_G) (ca : Nat → ClassId) (ad : Nat → Nat) (res : Int × Mm) : Nat → List (Nat × Value) → List Value → Mm → Option (Int × Mm) → Prop := G p l e { frames := 1, cells := 0, slots := 0, locals := 64 } s m args below meth c (MQ below (QcI D vcl ca ad shC s.heap.size res) args s 0 0 (Aw ad shC.length s.heap.size)) 2 D vcl ca ad shC (Aw ad shC.length s.heap.size) res
def f_X3_addClass (x1 : Int) (σ : Mm) : Option (Int × Mm) :=
  ck ((0 : Int) ≤ x1 ∧ x1 < ((10 : Nat) : Int)) (ck ((0 : Int) ≤ (σ.1 1 0) ∧ (σ.1 1 0) < ((10 : Nat) : Int)) ((some (stI σ 2 (Int.toNat (σ.1 1 0)) (iOr (σ.1 2 (Int.toNat x1)) (iShl 1 (σ.1 1 0))))).bind (fun σ4 => ck ((0 : Int) ≤ (x1 * 8) ∧ (0 : Int) ≤ ((σ4.1 1 0) * 8) ∧ (0 : Int) ≤ 8 ∧ (x1 * 8) + 8 ≤ ((80 : Nat) : Int) ∧ ((σ4.1 1 0) * 8) + 8 ≤ ((80 : Nat) : Int)) ((some (cpI σ4 5 5 (Int.toNat (x1 * 8)) (Int.toNat ((σ4.1 1 0) * 8)) 8)).bind (fun σ6 => ck (inR ((σ6.1 1 0) + 1)) (ck (inR (((stI σ6 1 0 ((σ6.1 1 0) + 1)).1 1 0) - 1)) (some ((((stI σ6 1 0 ((σ6.1 1 0) + 1)).1 1 0) - 1), (stI σ6 1 0 ((σ6.1 1 0) + 1))))))))))
theorem hd_X3_addClass : yX3_addClass.cls = RX3 ∧ yX3_addClass.cls ≠ "java/lang/invoke/MethodHandle" ∧ yX3_addClass.cls ≠ "java/lang/invoke/VarHandle" ∧ (parseMethodDescriptor yX3_addClass.desc).map (fun d => d.parameters.length) = some 1 := by decide +kernel
set_option maxRecDepth 100000 in
set_option maxHeartbeats 4000000 in
theorem c_X3_addClass {l : Launch} {D : va_G} {ca : Nat → ClassId} {ad : Nat → Nat} {x1 : Int} (hx1 : inR x1) {σ : Mm} : CtI l D vcl ca ad shC NC yX3_addClass (Cond.code yX3_addClass cX3_addClass 2 (some .int) :: tbG) { frames := 1, cells := 0, slots := 0, locals := 64 } [.ref (ad 1), .int (oi x1)] σ (f_X3_addClass x1 σ) := by
  refine ct_I RX3 rfl (by decide) rfl (Nat.le_of_ble_eq_true rfl) (fun p e s m below meth c res X hN hr hlk => ?_)
  show GX3_addClass p l e s m _ below meth c D ca ad res 0 [(0, .ref (ad 1)), (1, .int (oi x1))] [] σ (f_X3_addClass x1 σ)
  unfold f_X3_addClass
  refine q_aload_n X dX3_addClass_0 0 rfl ?_
  refine fg_X3_24 X dX3_addClass_1 ?_
  refine q_aload_n X dX3_addClass_4 0 rfl ?_
  refine fg_X3_9 X dX3_addClass_5 (fun h1 => ?_)
  refine q_aload_n X dX3_addClass_8 0 rfl ?_
  refine fg_X3_24 X dX3_addClass_9 ?_
  refine q_iload_n X dX3_addClass_12 1 rfl ?_
  refine q_iald X hC2 (by decide) dX3_addClass_13 (fun h2 => ?_)
  refine q_iconst X dX3_addClass_14 ?_
  refine q_aload_n X dX3_addClass_15 0 rfl ?_
  refine fg_X3_9 X dX3_addClass_16 (fun h3 => ?_)
  refine q_ishl X dX3_addClass_19 ?_
  refine q_ior X dX3_addClass_20 ?_
  refine q_iast X hC2 (by decide) (oi_rng _) dX3_addClass_21 ?_
  refine q_nm (fun σ4 => ?_)
  refine q_aload_n X dX3_addClass_22 0 rfl ?_
  refine fg_X3_34 X dX3_addClass_23 ?_
  refine q_iload_n X dX3_addClass_26 1 rfl ?_
  refine q_bipush X dX3_addClass_27 (by decide) ?_
  refine q_imul X dX3_addClass_29 ?_
  refine q_aload_n X dX3_addClass_30 0 rfl ?_
  refine fg_X3_34 X dX3_addClass_31 ?_
  refine q_aload_n X dX3_addClass_34 0 rfl ?_
  refine fg_X3_9 X dX3_addClass_35 (fun h5 => ?_)
  refine q_bipush X dX3_addClass_38 (by decide) ?_
  refine q_imul X dX3_addClass_40 ?_
  refine q_bipush X dX3_addClass_41 (by decide) ?_
  refine q_copy X (List.mem_cons_of_mem _ mw_334) (List.mem_cons_of_mem _ mw_336) (List.mem_cons_of_mem _ mw_335) (List.mem_cons_of_mem _ mw_10) hC5 hC5 (by decide) (by decide) (Nat.le_of_ble_eq_true rfl) (Nat.le_of_ble_eq_true rfl) dX3_addClass_43 ?_
  refine q_nm (fun σ6 => ?_)
  refine q_aload_n X dX3_addClass_46 0 rfl ?_
  refine q_dup X dX3_addClass_47 rfl ?_
  refine fg_X3_9 X dX3_addClass_48 (fun h7 => ?_)
  refine q_iconst X dX3_addClass_51 ?_
  refine q_iadd X dX3_addClass_52 ?_
  refine q_ck (fun h8 => ?_)
  refine fp_X3_9 X h8 dX3_addClass_53 ?_
  refine q_aload_n X dX3_addClass_56 0 rfl ?_
  refine fg_X3_9 X dX3_addClass_57 (fun h9 => ?_)
  refine q_iconst X dX3_addClass_60 ?_
  refine q_isub X dX3_addClass_61 ?_
  refine q_ck (fun h10 => ?_)
  exact q_iret X h10 hr hlk dX3_addClass_62

/-! SiteObjects$Program.setMeant(III)V -/
abbrev GX3_setMeant (p : Program) (l : Launch) (e : Env) (s : State) (m : MethodId) (args : Array Value) (below : List Frame) (meth : Method) (c : Code) (D : va_G) (ca : Nat → ClassId) (ad : Nat → Nat) (res : Mm) : Nat → List (Nat × Value) → List Value → Mm → Option (Mm) → Prop := G p l e { frames := 1, cells := 0, slots := 0, locals := 22 } s m args below meth c (MQ below (QcV D vcl ca ad shC s.heap.size res) args s 0 0 (Aw ad shC.length s.heap.size)) 7 D vcl ca ad shC (Aw ad shC.length s.heap.size) res
def f_X3_setMeant_52 (k3 : Int → Int → Int → Int → Mm → Option (Mm)) (x1 : Int) (x2 : Int) (x3 : Int) (x4 : Int) (x5 : Int) (s0 : Int) (σ : Mm) : Option (Mm) :=
  (f_X3_liesBelow x4 x1 σ).bind (fun r1 => (if r1 = 0 then ck (inR (x4 + 1)) (k3 x1 x2 x3 (x4 + 1) σ) else (if s0 = 0 then ck (inR (x4 + 1)) (k3 x1 x2 x3 (x4 + 1) σ) else ck ((0 : Int) ≤ x5 ∧ x5 < ((80 : Nat) : Int)) (ck (inR (x4 + 1)) (k3 x1 x2 x3 (x4 + 1) (stI σ 5 (Int.toNat x5) x3))))))
set_option maxRecDepth 100000 in
set_option maxHeartbeats 4000000 in
theorem t_X3_setMeant_52 {p : Program} {l : Launch} {e : Env} {s : State} {m : MethodId} {args : Array Value} {below : List Frame} {meth : Method} {c : Code} {D : va_G} {ca : Nat → ClassId} {ad : Nat → Nat} {res : Mm} {k3 : Int → Int → Int → Int → Mm → Option (Mm)} (X : Cx p s m args c cX3_setMeant 7 RX3 (Cond.code yX3_setMeant cX3_setMeant 7 none :: tbG) D vcl ca) (hN : NC s) (hr : meth.sig.returnType = none) (hlk : meth.locks = false) (hk3 : ∀ (x1 : Int) (x2 : Int) (x3 : Int) (x4 : Int) (σ : Mm), inR x1 → inR x2 → inR x3 → inR x4 → GX3_setMeant p l e s m args below meth c D ca ad res 3 [(0, .ref (ad 1)), (1, .int (oi x1)), (2, .int (oi x2)), (3, .int (oi x3)), (4, .int (oi x4))] [] σ (k3 x1 x2 x3 x4 σ)) : ∀ (x1 : Int) (x2 : Int) (x3 : Int) (x4 : Int) (x5 : Int) (s0 : Int) (σ : Mm), inR x1 → inR x2 → inR x3 → inR x4 → inR x5 → inR s0 → GX3_setMeant p l e s m args below meth c D ca ad res 52 [(0, .ref (ad 1)), (1, .int (oi x1)), (2, .int (oi x2)), (3, .int (oi x3)), (4, .int (oi x4)), (5, .int (oi x5))] [.int (oi s0)] σ (f_X3_setMeant_52 k3 x1 x2 x3 x4 x5 s0 σ) := by
  intro x1 x2 x3 x4 x5 s0 σ hx1 hx2 hx3 hx4 hx5 hs0
  unfold f_X3_setMeant_52
  refine q_istore X [(6, .int (oi s0)), (0, .ref (ad 1)), (1, .int (oi x1)), (2, .int (oi x2)), (3, .int (oi x3)), (4, .int (oi x4)), (5, .int (oi x5))] dX3_setMeant_52 (by decide) rfl ?_
  refine q_aload_n X dX3_setMeant_54 1 rfl ?_
  refine q_iload X dX3_setMeant_55 5 rfl ?_
  refine q_iload_n X dX3_setMeant_57 2 rfl ?_
  refine q_callIp X NCok hN Aw_new (c_X3_liesBelow hx4 hx1) (rn_V X (cwV 2 X.2.2.2.2.1 (tbG_good _ (tbG_V mw_358 mw_359 mw_360 mw_2 mw_361)) rfl rfl rfl hd_X3_liesBelow ⟨by decide, by decide⟩) hC1 rfl rfl rfl (Nat.le_of_ble_eq_true rfl) dX3_setMeant_58) (fun r1 _ h3 => ?_)
  refine q_if_eq X h3 77 dX3_setMeant_61 (by decide) (fun h4 => ?_) (fun h4 => ?_)
  · refine q_iinc X [(4, .int (oi (x4 + 1))), (6, .int (oi s0)), (0, .ref (ad 1)), (1, .int (oi x1)), (2, .int (oi x2)), (3, .int (oi x3)), (5, .int (oi x5))] dX3_setMeant_77 (by decide) 5 rfl rfl (fun h5 => ?_)
    refine q_goto X 3 dX3_setMeant_80 (by decide) ?_
    refine q_sub [(0, .ref (ad 1)), (1, .int (oi x1)), (2, .int (oi x2)), (3, .int (oi x3)), (4, .int (oi (x4 + 1)))] [2, 3, 4, 5, 0] rfl ?_
    exact hk3 x1 x2 x3 (x4 + 1) σ hx1 hx2 hx3 h5
  · refine q_iload X dX3_setMeant_64 0 rfl ?_
    refine q_if_eq X hs0 77 dX3_setMeant_66 (by decide) (fun h6 => ?_) (fun h6 => ?_)
    · refine q_iinc X [(4, .int (oi (x4 + 1))), (6, .int (oi s0)), (0, .ref (ad 1)), (1, .int (oi x1)), (2, .int (oi x2)), (3, .int (oi x3)), (5, .int (oi x5))] dX3_setMeant_77 (by decide) 5 rfl rfl (fun h7 => ?_)
      refine q_goto X 3 dX3_setMeant_80 (by decide) ?_
      refine q_sub [(0, .ref (ad 1)), (1, .int (oi x1)), (2, .int (oi x2)), (3, .int (oi x3)), (4, .int (oi (x4 + 1)))] [2, 3, 4, 5, 0] rfl ?_
      exact hk3 x1 x2 x3 (x4 + 1) σ hx1 hx2 hx3 h7
    · refine q_aload_n X dX3_setMeant_69 1 rfl ?_
      refine fg_X3_34 X dX3_setMeant_70 ?_
      refine q_iload X dX3_setMeant_73 6 rfl ?_
      refine q_iload_n X dX3_setMeant_75 4 rfl ?_
      refine q_iast X hC5 (by decide) hx3 dX3_setMeant_76 ?_
      refine q_iinc X [(4, .int (oi (x4 + 1))), (6, .int (oi s0)), (0, .ref (ad 1)), (1, .int (oi x1)), (2, .int (oi x2)), (3, .int (oi x3)), (5, .int (oi x5))] dX3_setMeant_77 (by decide) 5 rfl rfl (fun h8 => ?_)
      refine q_goto X 3 dX3_setMeant_80 (by decide) ?_
      refine q_sub [(0, .ref (ad 1)), (1, .int (oi x1)), (2, .int (oi x2)), (3, .int (oi x3)), (4, .int (oi (x4 + 1)))] [2, 3, 4, 5, 0] rfl ?_
      exact hk3 x1 x2 x3 (x4 + 1) (stI σ 5 (Int.toNat x5) x3) hx1 hx2 hx3 h8
def f_X3_setMeant_3 : Nat → Int → Int → Int → Int → Mm → Option (Mm)
  | 0, _, _, _, _, _ => none
  | n + 1, x1, x2, x3, x4, σ => (if (σ.1 1 0) ≤ x4 then some σ else ck (inR ((x4 * 8) + x2)) (ck ((0 : Int) ≤ ((x4 * 8) + x2) ∧ ((x4 * 8) + x2) < ((80 : Nat) : Int)) ((if (σ.1 5 (Int.toNat ((x4 * 8) + x2))) < 0 then f_X3_setMeant_52 (f_X3_setMeant_3 n) x1 x2 x3 x4 ((x4 * 8) + x2) 1 σ else ck ((0 : Int) ≤ ((x4 * 8) + x2) ∧ ((x4 * 8) + x2) < ((80 : Nat) : Int)) (ck ((0 : Int) ≤ (σ.1 5 (Int.toNat ((x4 * 8) + x2))) ∧ (σ.1 5 (Int.toNat ((x4 * 8) + x2))) < ((12 : Nat) : Int)) ((if x1 ≤ (σ.1 3 (Int.toNat (σ.1 5 (Int.toNat ((x4 * 8) + x2))))) then f_X3_setMeant_52 (f_X3_setMeant_3 n) x1 x2 x3 x4 ((x4 * 8) + x2) 0 σ else f_X3_setMeant_52 (f_X3_setMeant_3 n) x1 x2 x3 x4 ((x4 * 8) + x2) 1 σ)))))))
set_option maxRecDepth 100000 in
set_option maxHeartbeats 4000000 in
theorem t_X3_setMeant_3 {p : Program} {l : Launch} {e : Env} {s : State} {m : MethodId} {args : Array Value} {below : List Frame} {meth : Method} {c : Code} {D : va_G} {ca : Nat → ClassId} {ad : Nat → Nat} {res : Mm} (X : Cx p s m args c cX3_setMeant 7 RX3 (Cond.code yX3_setMeant cX3_setMeant 7 none :: tbG) D vcl ca) (hN : NC s) (hr : meth.sig.returnType = none) (hlk : meth.locks = false) : ∀ (n : Nat) (x1 : Int) (x2 : Int) (x3 : Int) (x4 : Int) (σ : Mm), inR x1 → inR x2 → inR x3 → inR x4 → GX3_setMeant p l e s m args below meth c D ca ad res 3 [(0, .ref (ad 1)), (1, .int (oi x1)), (2, .int (oi x2)), (3, .int (oi x3)), (4, .int (oi x4))] [] σ (f_X3_setMeant_3 n x1 x2 x3 x4 σ)
  := by
  intro n
  induction n with
  | zero => intro x1 x2 x3 x4 σ hx1 hx2 hx3 hx4 h; cases h
  | succ n ih =>
    intro x1 x2 x3 x4 σ hx1 hx2 hx3 hx4
    rw [f_X3_setMeant_3]
    refine q_iload X dX3_setMeant_3 4 rfl ?_
    refine q_aload_n X dX3_setMeant_5 0 rfl ?_
    refine fg_X3_9 X dX3_setMeant_6 (fun h9 => ?_)
    refine q_icmp_ge X hx4 h9 83 dX3_setMeant_9 (by decide) (fun h10 => ?_) (fun h10 => ?_)
    · exact q_vret X hr hlk dX3_setMeant_83
    · refine q_iload X dX3_setMeant_12 4 rfl ?_
      refine q_bipush X dX3_setMeant_14 (by decide) ?_
      refine q_imul X dX3_setMeant_16 ?_
      refine q_iload_n X dX3_setMeant_17 2 rfl ?_
      refine q_iadd X dX3_setMeant_18 ?_
      refine q_ck (fun h11 => ?_)
      refine q_istore X [(5, .int (oi ((x4 * 8) + x2))), (0, .ref (ad 1)), (1, .int (oi x1)), (2, .int (oi x2)), (3, .int (oi x3)), (4, .int (oi x4))] dX3_setMeant_19 (by decide) rfl ?_
      refine q_aload_n X dX3_setMeant_21 1 rfl ?_
      refine fg_X3_34 X dX3_setMeant_22 ?_
      refine q_iload X dX3_setMeant_25 0 rfl ?_
      refine q_iald X hC5 (by decide) dX3_setMeant_27 (fun h12 => ?_)
      refine q_if_lt X h12 47 dX3_setMeant_28 (by decide) (fun h13 => ?_) (fun h13 => ?_)
      · refine q_iconst X dX3_setMeant_47 ?_
        refine q_goto X 52 dX3_setMeant_48 (by decide) ?_
        refine q_sub [(0, .ref (ad 1)), (1, .int (oi x1)), (2, .int (oi x2)), (3, .int (oi x3)), (4, .int (oi x4)), (5, .int (oi ((x4 * 8) + x2)))] [1, 2, 3, 4, 5, 0] rfl ?_
        exact t_X3_setMeant_52 X hN hr hlk ih x1 x2 x3 x4 ((x4 * 8) + x2) 1 σ hx1 hx2 hx3 hx4 h11 (by decide)
      · refine q_aload_n X dX3_setMeant_31 1 rfl ?_
        refine fg_X3_28 X dX3_setMeant_32 ?_
        refine q_aload_n X dX3_setMeant_35 1 rfl ?_
        refine fg_X3_34 X dX3_setMeant_36 ?_
        refine q_iload X dX3_setMeant_39 0 rfl ?_
        refine q_iald X hC5 (by decide) dX3_setMeant_41 (fun h14 => ?_)
        refine q_iald X hC3 (by decide) dX3_setMeant_42 (fun h15 => ?_)
        refine q_iload_n X dX3_setMeant_43 2 rfl ?_
        refine q_icmp_ge X h15 hx1 51 dX3_setMeant_44 (by decide) (fun h16 => ?_) (fun h16 => ?_)
        · refine q_iconst X dX3_setMeant_51 ?_
          refine q_sub [(0, .ref (ad 1)), (1, .int (oi x1)), (2, .int (oi x2)), (3, .int (oi x3)), (4, .int (oi x4)), (5, .int (oi ((x4 * 8) + x2)))] [1, 2, 3, 4, 5, 0] rfl ?_
          exact t_X3_setMeant_52 X hN hr hlk ih x1 x2 x3 x4 ((x4 * 8) + x2) 0 σ hx1 hx2 hx3 hx4 h11 (by decide)
        · refine q_iconst X dX3_setMeant_47 ?_
          refine q_goto X 52 dX3_setMeant_48 (by decide) ?_
          refine q_sub [(0, .ref (ad 1)), (1, .int (oi x1)), (2, .int (oi x2)), (3, .int (oi x3)), (4, .int (oi x4)), (5, .int (oi ((x4 * 8) + x2)))] [1, 2, 3, 4, 5, 0] rfl ?_
          exact t_X3_setMeant_52 X hN hr hlk ih x1 x2 x3 x4 ((x4 * 8) + x2) 1 σ hx1 hx2 hx3 hx4 h11 (by decide)
def f_X3_setMeant (x1 : Int) (x2 : Int) (x3 : Int) (σ : Mm) : Option (Mm) :=
  f_X3_setMeant_3 2000 x1 x2 x3 x1 σ
theorem hd_X3_setMeant : yX3_setMeant.cls = RX3 ∧ yX3_setMeant.cls ≠ "java/lang/invoke/MethodHandle" ∧ yX3_setMeant.cls ≠ "java/lang/invoke/VarHandle" ∧ (parseMethodDescriptor yX3_setMeant.desc).map (fun d => d.parameters.length) = some 3 := by decide +kernel
set_option maxRecDepth 100000 in
set_option maxHeartbeats 4000000 in
theorem c_X3_setMeant {l : Launch} {D : va_G} {ca : Nat → ClassId} {ad : Nat → Nat} {x1 : Int} {x2 : Int} {x3 : Int} (hx1 : inR x1) (hx2 : inR x2) (hx3 : inR x3) {σ : Mm} : CtV l D vcl ca ad shC NC yX3_setMeant (Cond.code yX3_setMeant cX3_setMeant 7 none :: tbG) { frames := 1, cells := 0, slots := 0, locals := 22 } [.ref (ad 1), .int (oi x1), .int (oi x2), .int (oi x3)] σ (f_X3_setMeant x1 x2 x3 σ) := by
  refine ct_V RX3 rfl (by decide) rfl (Nat.le_of_ble_eq_true rfl) (fun p e s m below meth c res X hN hr hlk => ?_)
  show GX3_setMeant p l e s m _ below meth c D ca ad res 0 [(0, .ref (ad 1)), (1, .int (oi x1)), (2, .int (oi x2)), (3, .int (oi x3))] [] σ (f_X3_setMeant x1 x2 x3 σ)
  unfold f_X3_setMeant
  refine q_iload_n X dX3_setMeant_0 1 rfl ?_
  refine q_istore X [(4, .int (oi x1)), (0, .ref (ad 1)), (1, .int (oi x1)), (2, .int (oi x2)), (3, .int (oi x3))] dX3_setMeant_1 (by decide) rfl ?_
  refine q_sub [(0, .ref (ad 1)), (1, .int (oi x1)), (2, .int (oi x2)), (3, .int (oi x3)), (4, .int (oi x1))] [1, 2, 3, 4, 0] rfl ?_
  exact t_X3_setMeant_3 X hN hr hlk 2000 x1 x2 x3 x1 σ hx1 hx2 hx3 hx1

/-! SiteObjects$Program.addMethod(II)I -/
abbrev GX3_addMethod (p : Program) (l : Launch) (e : Env) (s : State) (m : MethodId) (args : Array Value) (below : List Frame) (meth : Method) (c : Code) (D : va_G) (ca : Nat → ClassId) (ad : Nat → Nat) (res : Int × Mm) : Nat → List (Nat × Value) → List Value → Mm → Option (Int × Mm) → Prop := G p l e { frames := 2, cells := 0, slots := 0, locals := 48 } s m args below meth c (MQ below (QcI D vcl ca ad shC s.heap.size res) args s 0 0 (Aw ad shC.length s.heap.size)) 3 D vcl ca ad shC (Aw ad shC.length s.heap.size) res
def f_X3_addMethod (x1 : Int) (x2 : Int) (σ : Mm) : Option (Int × Mm) :=
  ck ((0 : Int) ≤ (σ.1 1 1) ∧ (σ.1 1 1) < ((12 : Nat) : Int)) (ck ((0 : Int) ≤ ((stI σ 3 (Int.toNat (σ.1 1 1)) x1).1 1 1) ∧ ((stI σ 3 (Int.toNat (σ.1 1 1)) x1).1 1 1) < ((12 : Nat) : Int)) ((some (stI (stI σ 3 (Int.toNat (σ.1 1 1)) x1) 4 (Int.toNat ((stI σ 3 (Int.toNat (σ.1 1 1)) x1).1 1 1)) x2)).bind (fun σ3 => (if x1 < 0 then ck (inR ((σ3.1 1 1) + 1)) (ck (inR (((stI σ3 1 1 ((σ3.1 1 1) + 1)).1 1 1) - 1)) (some ((((stI σ3 1 1 ((σ3.1 1 1) + 1)).1 1 1) - 1), (stI σ3 1 1 ((σ3.1 1 1) + 1))))) else (f_X3_setMeant x1 x2 (σ3.1 1 1) σ3).bind (fun r10 => ck (inR ((r10.1 1 1) + 1)) (ck (inR (((stI r10 1 1 ((r10.1 1 1) + 1)).1 1 1) - 1)) (some ((((stI r10 1 1 ((r10.1 1 1) + 1)).1 1 1) - 1), (stI r10 1 1 ((r10.1 1 1) + 1))))))))))
theorem hd_X3_addMethod : yX3_addMethod.cls = RX3 ∧ yX3_addMethod.cls ≠ "java/lang/invoke/MethodHandle" ∧ yX3_addMethod.cls ≠ "java/lang/invoke/VarHandle" ∧ (parseMethodDescriptor yX3_addMethod.desc).map (fun d => d.parameters.length) = some 2 := by decide +kernel
set_option maxRecDepth 100000 in
set_option maxHeartbeats 4000000 in
theorem c_X3_addMethod {l : Launch} {D : va_G} {ca : Nat → ClassId} {ad : Nat → Nat} {x1 : Int} {x2 : Int} (hx1 : inR x1) (hx2 : inR x2) {σ : Mm} : CtI l D vcl ca ad shC NC yX3_addMethod (Cond.code yX3_addMethod cX3_addMethod 3 (some .int) :: tbG) { frames := 2, cells := 0, slots := 0, locals := 48 } [.ref (ad 1), .int (oi x1), .int (oi x2)] σ (f_X3_addMethod x1 x2 σ) := by
  refine ct_I RX3 rfl (by decide) rfl (Nat.le_of_ble_eq_true rfl) (fun p e s m below meth c res X hN hr hlk => ?_)
  show GX3_addMethod p l e s m _ below meth c D ca ad res 0 [(0, .ref (ad 1)), (1, .int (oi x1)), (2, .int (oi x2))] [] σ (f_X3_addMethod x1 x2 σ)
  unfold f_X3_addMethod
  refine q_aload_n X dX3_addMethod_0 0 rfl ?_
  refine fg_X3_28 X dX3_addMethod_1 ?_
  refine q_aload_n X dX3_addMethod_4 0 rfl ?_
  refine fg_X3_15 X dX3_addMethod_5 (fun h1 => ?_)
  refine q_iload_n X dX3_addMethod_8 1 rfl ?_
  refine q_iast X hC3 (by decide) hx1 dX3_addMethod_9 ?_
  refine q_aload_n X dX3_addMethod_10 0 rfl ?_
  refine fg_X3_31 X dX3_addMethod_11 ?_
  refine q_aload_n X dX3_addMethod_14 0 rfl ?_
  refine fg_X3_15 X dX3_addMethod_15 (fun h2 => ?_)
  refine q_iload_n X dX3_addMethod_18 2 rfl ?_
  refine q_iast X hC4 (by decide) hx2 dX3_addMethod_19 ?_
  refine q_nm (fun σ3 => ?_)
  refine q_iload_n X dX3_addMethod_20 1 rfl ?_
  refine q_if_lt X hx1 34 dX3_addMethod_21 (by decide) (fun h4 => ?_) (fun h4 => ?_)
  · refine q_aload_n X dX3_addMethod_34 0 rfl ?_
    refine q_dup X dX3_addMethod_35 rfl ?_
    refine fg_X3_15 X dX3_addMethod_36 (fun h5 => ?_)
    refine q_iconst X dX3_addMethod_39 ?_
    refine q_iadd X dX3_addMethod_40 ?_
    refine q_ck (fun h6 => ?_)
    refine fp_X3_15 X h6 dX3_addMethod_41 ?_
    refine q_aload_n X dX3_addMethod_44 0 rfl ?_
    refine fg_X3_15 X dX3_addMethod_45 (fun h7 => ?_)
    refine q_iconst X dX3_addMethod_48 ?_
    refine q_isub X dX3_addMethod_49 ?_
    refine q_ck (fun h8 => ?_)
    exact q_iret X h8 hr hlk dX3_addMethod_50
  · refine q_aload_n X dX3_addMethod_24 0 rfl ?_
    refine q_iload_n X dX3_addMethod_25 1 rfl ?_
    refine q_iload_n X dX3_addMethod_26 2 rfl ?_
    refine q_aload_n X dX3_addMethod_27 0 rfl ?_
    refine fg_X3_15 X dX3_addMethod_28 (fun h9 => ?_)
    refine q_callV X NCok hN Aw_new (c_X3_setMeant hx1 hx2 h9) (rn_V X (cwV 3 X.2.2.2.2.1 (tbG_good _ (tbG_V mw_354 mw_356 mp_1_1 mw_2 mw_357)) rfl rfl rfl hd_X3_setMeant ⟨by decide, by decide⟩) hC1 rfl rfl rfl (Nat.le_of_ble_eq_true rfl) dX3_addMethod_31) (fun r10 _ => ?_)
    refine q_aload_n X dX3_addMethod_34 0 rfl ?_
    refine q_dup X dX3_addMethod_35 rfl ?_
    refine fg_X3_15 X dX3_addMethod_36 (fun h13 => ?_)
    refine q_iconst X dX3_addMethod_39 ?_
    refine q_iadd X dX3_addMethod_40 ?_
    refine q_ck (fun h14 => ?_)
    refine fp_X3_15 X h14 dX3_addMethod_41 ?_
    refine q_aload_n X dX3_addMethod_44 0 rfl ?_
    refine fg_X3_15 X dX3_addMethod_45 (fun h15 => ?_)
    refine q_iconst X dX3_addMethod_48 ?_
    refine q_isub X dX3_addMethod_49 ?_
    refine q_ck (fun h16 => ?_)
    exact q_iret X h16 hr hlk dX3_addMethod_50

/-! SiteObjects$Program.addStep(II)I -/
abbrev GX3_addStep (p : Program) (l : Launch) (e : Env) (s : State) (m : MethodId) (args : Array Value) (below : List Frame) (meth : Method) (c : Code) (D : va_G) (ca : Nat → ClassId) (ad : Nat → Nat) (res : Int × Mm) : Nat → List (Nat × Value) → List Value → Mm → Option (Int × Mm) → Prop := G p l e { frames := 0, cells := 0, slots := 0, locals := 0 } s m args below meth c (MQ below (QcI D vcl ca ad shC s.heap.size res) args s 0 0 (Aw ad shC.length s.heap.size)) 4 D vcl ca ad shC (Aw ad shC.length s.heap.size) res
def f_X3_addStep (x1 : Int) (x2 : Int) (σ : Mm) : Option (Int × Mm) :=
  ck ((0 : Int) ≤ (σ.1 1 2) ∧ (σ.1 1 2) < ((90 : Nat) : Int)) (ck ((0 : Int) ≤ (σ.1 1 2) ∧ (σ.1 1 2) < ((90 : Nat) : Int)) ((some (stI (stI σ 8 (Int.toNat (σ.1 1 2)) x2) 13 (Int.toNat (σ.1 1 2)) x1)).bind (fun σ2 => ck ((0 : Int) ≤ x1 ∧ x1 < ((12 : Nat) : Int)) (ck ((0 : Int) ≤ (σ.1 1 2) ∧ (σ.1 1 2) < ((90 : Nat) : Int)) (ck ((0 : Int) ≤ x1 ∧ x1 < ((12 : Nat) : Int)) (ck ((0 : Int) ≤ ((x1 * 90) + ((stI σ2 14 (Int.toNat (σ.1 1 2)) (σ2.1 6 (Int.toNat x1))).1 6 (Int.toNat x1))) ∧ ((x1 * 90) + ((stI σ2 14 (Int.toNat (σ.1 1 2)) (σ2.1 6 (Int.toNat x1))).1 6 (Int.toNat x1))) < ((1080 : Nat) : Int)) ((some (stI (stI σ2 14 (Int.toNat (σ.1 1 2)) (σ2.1 6 (Int.toNat x1))) 7 (Int.toNat ((x1 * 90) + ((stI σ2 14 (Int.toNat (σ.1 1 2)) (σ2.1 6 (Int.toNat x1))).1 6 (Int.toNat x1)))) (σ.1 1 2))).bind (fun σ5 => ck ((0 : Int) ≤ x1 ∧ x1 < ((12 : Nat) : Int)) (ck (inR ((σ5.1 6 (Int.toNat x1)) + 1)) (ck ((0 : Int) ≤ x1 ∧ x1 < ((12 : Nat) : Int)) (ck (inR (((stI σ5 6 (Int.toNat x1) ((σ5.1 6 (Int.toNat x1)) + 1)).1 1 2) + 1)) ((some (stI (stI σ5 6 (Int.toNat x1) ((σ5.1 6 (Int.toNat x1)) + 1)) 1 2 (((stI σ5 6 (Int.toNat x1) ((σ5.1 6 (Int.toNat x1)) + 1)).1 1 2) + 1))).bind (fun σ10 => (if 1 < x2 then some ((σ.1 1 2), σ10) else ck (inR ((σ10.1 1 3) + 1)) (some ((σ.1 1 2), (stI σ10 1 3 ((σ10.1 1 3) + 1))))))))))))))))))
theorem hd_X3_addStep : yX3_addStep.cls = RX3 ∧ yX3_addStep.cls ≠ "java/lang/invoke/MethodHandle" ∧ yX3_addStep.cls ≠ "java/lang/invoke/VarHandle" ∧ (parseMethodDescriptor yX3_addStep.desc).map (fun d => d.parameters.length) = some 2 := by decide +kernel
set_option maxRecDepth 100000 in
set_option maxHeartbeats 4000000 in
theorem c_X3_addStep {l : Launch} {D : va_G} {ca : Nat → ClassId} {ad : Nat → Nat} {x1 : Int} {x2 : Int} (hx1 : inR x1) (hx2 : inR x2) {σ : Mm} : CtI l D vcl ca ad shC NC yX3_addStep (Cond.code yX3_addStep cX3_addStep 4 (some .int) :: tbG) { frames := 0, cells := 0, slots := 0, locals := 0 } [.ref (ad 1), .int (oi x1), .int (oi x2)] σ (f_X3_addStep x1 x2 σ) := by
  refine ct_I RX3 rfl (by decide) rfl (Nat.le_of_ble_eq_true rfl) (fun p e s m below meth c res X hN hr hlk => ?_)
  show GX3_addStep p l e s m _ below meth c D ca ad res 0 [(0, .ref (ad 1)), (1, .int (oi x1)), (2, .int (oi x2))] [] σ (f_X3_addStep x1 x2 σ)
  unfold f_X3_addStep
  refine q_aload_n X dX3_addStep_0 0 rfl ?_
  refine fg_X3_18 X dX3_addStep_1 (fun h1 => ?_)
  refine q_istore_n X [(3, .int (oi (σ.1 1 2))), (0, .ref (ad 1)), (1, .int (oi x1)), (2, .int (oi x2))] dX3_addStep_4 (by decide) rfl ?_
  refine q_aload_n X dX3_addStep_5 1 rfl ?_
  refine fg_X3_43 X dX3_addStep_6 ?_
  refine q_iload_n X dX3_addStep_9 0 rfl ?_
  refine q_iload_n X dX3_addStep_10 3 rfl ?_
  refine q_iast X hC8 (by decide) hx2 dX3_addStep_11 ?_
  refine q_aload_n X dX3_addStep_12 1 rfl ?_
  refine fg_X3_58 X dX3_addStep_13 ?_
  refine q_iload_n X dX3_addStep_16 0 rfl ?_
  refine q_iload_n X dX3_addStep_17 2 rfl ?_
  refine q_iast X hC13 (by decide) hx1 dX3_addStep_18 ?_
  refine q_nm (fun σ2 => ?_)
  refine q_aload_n X dX3_addStep_19 1 rfl ?_
  refine fg_X3_61 X dX3_addStep_20 ?_
  refine q_iload_n X dX3_addStep_23 0 rfl ?_
  refine q_aload_n X dX3_addStep_24 1 rfl ?_
  refine fg_X3_37 X dX3_addStep_25 ?_
  refine q_iload_n X dX3_addStep_28 2 rfl ?_
  refine q_iald X hC6 (by decide) dX3_addStep_29 (fun h3 => ?_)
  refine q_iast X hC14 (by decide) h3 dX3_addStep_30 ?_
  refine q_aload_n X dX3_addStep_31 1 rfl ?_
  refine fg_X3_40 X dX3_addStep_32 ?_
  refine q_iload_n X dX3_addStep_35 2 rfl ?_
  refine q_bipush X dX3_addStep_36 (by decide) ?_
  refine q_imul X dX3_addStep_38 ?_
  refine q_aload_n X dX3_addStep_39 1 rfl ?_
  refine fg_X3_37 X dX3_addStep_40 ?_
  refine q_iload_n X dX3_addStep_43 2 rfl ?_
  refine q_iald X hC6 (by decide) dX3_addStep_44 (fun h4 => ?_)
  refine q_iadd X dX3_addStep_45 ?_
  refine q_iload_n X dX3_addStep_46 0 rfl ?_
  refine q_iast X hC7 (by decide) h1 dX3_addStep_47 ?_
  refine q_nm (fun σ5 => ?_)
  refine q_aload_n X dX3_addStep_48 1 rfl ?_
  refine fg_X3_37 X dX3_addStep_49 ?_
  refine q_iload_n X dX3_addStep_52 2 rfl ?_
  refine q_dup2 X dX3_addStep_53 rfl rfl ?_
  refine q_iald X hC6 (by decide) dX3_addStep_54 (fun h6 => ?_)
  refine q_iconst X dX3_addStep_55 ?_
  refine q_iadd X dX3_addStep_56 ?_
  refine q_ck (fun h7 => ?_)
  refine q_iast X hC6 (by decide) h7 dX3_addStep_57 ?_
  refine q_aload_n X dX3_addStep_58 1 rfl ?_
  refine q_dup X dX3_addStep_59 rfl ?_
  refine fg_X3_18 X dX3_addStep_60 (fun h8 => ?_)
  refine q_iconst X dX3_addStep_63 ?_
  refine q_iadd X dX3_addStep_64 ?_
  refine q_ck (fun h9 => ?_)
  refine fp_X3_18 X h9 dX3_addStep_65 ?_
  refine q_nm (fun σ10 => ?_)
  refine q_iload_n X dX3_addStep_68 3 rfl ?_
  refine q_iconst X dX3_addStep_69 ?_
  refine q_icmp_gt X hx2 (by decide) 83 dX3_addStep_70 (by decide) (fun h11 => ?_) (fun h11 => ?_)
  · refine q_iload_n X dX3_addStep_83 0 rfl ?_
    exact q_iret X h1 hr hlk dX3_addStep_84
  · refine q_aload_n X dX3_addStep_73 1 rfl ?_
    refine q_dup X dX3_addStep_74 rfl ?_
    refine fg_X3_21 X dX3_addStep_75 (fun h12 => ?_)
    refine q_iconst X dX3_addStep_78 ?_
    refine q_iadd X dX3_addStep_79 ?_
    refine q_ck (fun h13 => ?_)
    refine fp_X3_21 X h13 dX3_addStep_80 ?_
    refine q_iload_n X dX3_addStep_83 0 rfl ?_
    exact q_iret X h1 hr hlk dX3_addStep_84

/-! SiteObjects$Program.tellNumbers(IIIII)V -/
abbrev GX3_tellNumbers (p : Program) (l : Launch) (e : Env) (s : State) (m : MethodId) (args : Array Value) (below : List Frame) (meth : Method) (c : Code) (D : va_G) (ca : Nat → ClassId) (ad : Nat → Nat) (res : Mm) : Nat → List (Nat × Value) → List Value → Mm → Option (Mm) → Prop := G p l e { frames := 0, cells := 0, slots := 0, locals := 0 } s m args below meth c (MQ below (QcV D vcl ca ad shC s.heap.size res) args s 0 0 (Aw ad shC.length s.heap.size)) 6 D vcl ca ad shC (Aw ad shC.length s.heap.size) res
def f_X3_tellNumbers (x1 : Int) (x2 : Int) (x3 : Int) (x4 : Int) (x5 : Int) (σ : Mm) : Option (Mm) :=
  ck ((0 : Int) ≤ x1 ∧ x1 < ((90 : Nat) : Int)) (ck ((0 : Int) ≤ x1 ∧ x1 < ((90 : Nat) : Int)) (ck ((0 : Int) ≤ x1 ∧ x1 < ((90 : Nat) : Int)) ((some (stI (stI (stI σ 9 (Int.toNat x1) x2) 10 (Int.toNat x1) x3) 11 (Int.toNat x1) x4)).bind (fun σ1 => ck ((0 : Int) ≤ x1 ∧ x1 < ((90 : Nat) : Int)) (some (stI σ1 12 (Int.toNat x1) x5))))))
theorem hd_X3_tellNumbers : yX3_tellNumbers.cls = RX3 ∧ yX3_tellNumbers.cls ≠ "java/lang/invoke/MethodHandle" ∧ yX3_tellNumbers.cls ≠ "java/lang/invoke/VarHandle" ∧ (parseMethodDescriptor yX3_tellNumbers.desc).map (fun d => d.parameters.length) = some 5 := by decide +kernel
set_option maxRecDepth 100000 in
set_option maxHeartbeats 4000000 in
theorem c_X3_tellNumbers {l : Launch} {D : va_G} {ca : Nat → ClassId} {ad : Nat → Nat} {x1 : Int} {x2 : Int} {x3 : Int} {x4 : Int} {x5 : Int} (hx1 : inR x1) (hx2 : inR x2) (hx3 : inR x3) (hx4 : inR x4) (hx5 : inR x5) {σ : Mm} : CtV l D vcl ca ad shC NC yX3_tellNumbers (Cond.code yX3_tellNumbers cX3_tellNumbers 6 none :: tbG) { frames := 0, cells := 0, slots := 0, locals := 0 } [.ref (ad 1), .int (oi x1), .int (oi x2), .int (oi x3), .int (oi x4), .int (oi x5)] σ (f_X3_tellNumbers x1 x2 x3 x4 x5 σ) := by
  refine ct_V RX3 rfl (by decide) rfl (Nat.le_of_ble_eq_true rfl) (fun p e s m below meth c res X hN hr hlk => ?_)
  show GX3_tellNumbers p l e s m _ below meth c D ca ad res 0 [(0, .ref (ad 1)), (1, .int (oi x1)), (2, .int (oi x2)), (3, .int (oi x3)), (4, .int (oi x4)), (5, .int (oi x5))] [] σ (f_X3_tellNumbers x1 x2 x3 x4 x5 σ)
  unfold f_X3_tellNumbers
  refine q_aload_n X dX3_tellNumbers_0 0 rfl ?_
  refine fg_X3_46 X dX3_tellNumbers_1 ?_
  refine q_iload_n X dX3_tellNumbers_4 1 rfl ?_
  refine q_iload_n X dX3_tellNumbers_5 2 rfl ?_
  refine q_iast X hC9 (by decide) hx2 dX3_tellNumbers_6 ?_
  refine q_aload_n X dX3_tellNumbers_7 0 rfl ?_
  refine fg_X3_49 X dX3_tellNumbers_8 ?_
  refine q_iload_n X dX3_tellNumbers_11 1 rfl ?_
  refine q_iload_n X dX3_tellNumbers_12 3 rfl ?_
  refine q_iast X hC10 (by decide) hx3 dX3_tellNumbers_13 ?_
  refine q_aload_n X dX3_tellNumbers_14 0 rfl ?_
  refine fg_X3_52 X dX3_tellNumbers_15 ?_
  refine q_iload_n X dX3_tellNumbers_18 1 rfl ?_
  refine q_iload X dX3_tellNumbers_19 4 rfl ?_
  refine q_iast X hC11 (by decide) hx4 dX3_tellNumbers_21 ?_
  refine q_nm (fun σ1 => ?_)
  refine q_aload_n X dX3_tellNumbers_22 0 rfl ?_
  refine fg_X3_55 X dX3_tellNumbers_23 ?_
  refine q_iload_n X dX3_tellNumbers_26 1 rfl ?_
  refine q_iload X dX3_tellNumbers_27 5 rfl ?_
  refine q_iast X hC12 (by decide) hx5 dX3_tellNumbers_29 ?_
  exact q_vret X hr hlk dX3_tellNumbers_30
