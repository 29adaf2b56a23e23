/-! SiteObjects$Frames.isFull()Z -/
abbrev GX1_isFull (p : Program) (l : Launch) (e : Env) (s : State) (m : MethodId) (args : Array Value) (below : List Frame) (meth : Method) (c : Code) (D : va_G) (ca : Nat → ClassId) (ad : Nat → Nat) (σ : Mm) (res : Int) : Nat → List (Nat × Value) → List Value → Mm → Option (Int) → Prop := G p l e { frames := 0, cells := 0, slots := 0, locals := 0 } s m args below meth c (MQ below (QcI D vcl ca ad shC s.heap.size (res, σ)) args s 0 0 (Aw ad shC.length s.heap.size)) 1 D vcl ca ad shC (Aw ad shC.length s.heap.size) res
def f_X1_isFull (σ : Mm) : Option (Int) :=
  (if (σ.1 44 0) < 25 then some 0 else some 1)
theorem hd_X1_isFull : yX1_isFull.cls = RX1 ∧ yX1_isFull.cls ≠ "java/lang/invoke/MethodHandle" ∧ yX1_isFull.cls ≠ "java/lang/invoke/VarHandle" ∧ (parseMethodDescriptor yX1_isFull.desc).map (fun d => d.parameters.length) = some 0 := by decide +kernel
set_option maxRecDepth 100000 in
set_option maxHeartbeats 4000000 in
theorem c_X1_isFull {l : Launch} {D : va_G} {ca : Nat → ClassId} {ad : Nat → Nat} {σ : Mm} : CtI l D vcl ca ad shC NC yX1_isFull (Cond.code yX1_isFull cX1_isFull 1 (some .boolean) :: tbG) { frames := 0, cells := 0, slots := 0, locals := 0 } [.ref (ad 44)] σ ((f_X1_isFull σ).map (fun r => (r, σ))) := by
  refine ct_Ip RX1 rfl (by decide) rfl (Nat.le_of_ble_eq_true rfl) (fun p e s m below meth c res X hN hr hlk => ?_)
  show GX1_isFull p l e s m _ below meth c D ca ad σ res 0 [(0, .ref (ad 44))] [] σ (f_X1_isFull σ)
  unfold f_X1_isFull
  refine q_aload_n X dX1_isFull_0 0 rfl ?_
  refine fg_X1_9 X dX1_isFull_1 (fun h1 => ?_)
  refine q_bipush X dX1_isFull_4 (by decide) ?_
  refine q_icmp_lt X h1 (by decide) 13 dX1_isFull_6 (by decide) (fun h2 => ?_) (fun h2 => ?_)
  · refine q_iconst X dX1_isFull_13 ?_
    exact q_zretp X (Or.inl rfl) hr hlk dX1_isFull_14
  · refine q_iconst X dX1_isFull_9 ?_
    refine q_goto X 14 dX1_isFull_10 (by decide) ?_
    exact q_zretp X (Or.inr rfl) hr hlk dX1_isFull_14

/-! SiteObjects$Frames.push(II)V -/
abbrev GX1_push (p : Program) (l : Launch) (e : Env) (s : State) (m : MethodId) (args : Array Value) (below : List Frame) (meth : Method) (c : Code) (D : va_G) (ca : Nat → ClassId) (ad : Nat → Nat) (res : Mm) : Nat → List (Nat × Value) → List Value → Mm → Option (Mm) → Prop := G p l e { frames := 0, cells := 0, slots := 0, locals := 0 } s m args below meth c (MQ below (QcV D vcl ca ad shC s.heap.size res) args s 0 0 (Aw ad shC.length s.heap.size)) 4 D vcl ca ad shC (Aw ad shC.length s.heap.size) res
def f_X1_push_32 : Nat → Int → Mm → Option (Mm)
  | 0, _, _ => none
  | n + 1, x3, σ => (if 6 ≤ x3 then ck (inR ((σ.1 44 0) + 1)) (some (stI σ 44 0 ((σ.1 44 0) + 1))) else ck ((0 : Int) ≤ (((σ.1 44 0) * 6) + x3) ∧ (((σ.1 44 0) * 6) + x3) < ((150 : Nat) : Int)) (ck (inR (x3 + 1)) (f_X1_push_32 n (x3 + 1) (stI σ 48 (Int.toNat (((σ.1 44 0) * 6) + x3)) (-9)))))
set_option maxRecDepth 100000 in
set_option maxHeartbeats 4000000 in
theorem t_X1_push_32 {p : Program} {l : Launch} {e : Env} {s : State} {m : MethodId} {args : Array Value} {below : List Frame} {meth : Method} {c : Code} {D : va_G} {ca : Nat → ClassId} {ad : Nat → Nat} {res : Mm} (X : Cx p s m args c cX1_push 4 RX1 (Cond.code yX1_push cX1_push 4 none :: tbG) D vcl ca) (hN : NC s) (hr : meth.sig.returnType = none) (hlk : meth.locks = false) : ∀ (n : Nat) (x3 : Int) (σ : Mm), inR x3 → GX1_push p l e s m args below meth c D ca ad res 32 [(0, .ref (ad 44)), (3, .int (oi x3))] [] σ (f_X1_push_32 n x3 σ)
  := by
  intro n
  induction n with
  | zero => intro x3 σ hx3 h; cases h
  | succ n ih =>
    intro x3 σ hx3
    rw [f_X1_push_32]
    refine q_iload_n X dX1_push_32 1 rfl ?_
    refine q_bipush X dX1_push_33 (by decide) ?_
    refine q_icmp_ge X hx3 (by decide) 60 dX1_push_35 (by decide) (fun h1 => ?_) (fun h1 => ?_)
    · refine q_aload_n X dX1_push_60 0 rfl ?_
      refine q_dup X dX1_push_61 rfl ?_
      refine fg_X1_9 X dX1_push_62 (fun h2 => ?_)
      refine q_iconst X dX1_push_65 ?_
      refine q_iadd X dX1_push_66 ?_
      refine q_ck (fun h3 => ?_)
      refine fp_X1_9 X h3 dX1_push_67 ?_
      exact q_vret X hr hlk dX1_push_70
    · refine q_aload_n X dX1_push_38 0 rfl ?_
      refine fg_X1_25 X dX1_push_39 ?_
      refine q_aload_n X dX1_push_42 0 rfl ?_
      refine fg_X1_9 X dX1_push_43 (fun h4 => ?_)
      refine q_bipush X dX1_push_46 (by decide) ?_
      refine q_imul X dX1_push_48 ?_
      refine q_iload_n X dX1_push_49 1 rfl ?_
      refine q_iadd X dX1_push_50 ?_
      refine q_bipush X dX1_push_51 (by decide) ?_
      refine q_iast X hC48 (by decide) (by decide) dX1_push_53 ?_
      refine q_iinc X [(3, .int (oi (x3 + 1))), (0, .ref (ad 44))] dX1_push_54 (by decide) 1 rfl rfl (fun h5 => ?_)
      refine q_goto X 32 dX1_push_57 (by decide) ?_
      refine q_sub [(0, .ref (ad 44)), (3, .int (oi (x3 + 1)))] [1, 0] rfl ?_
      exact ih (x3 + 1) (stI σ 48 (Int.toNat (((σ.1 44 0) * 6) + x3)) (-9)) h5
def f_X1_push (x1 : Int) (x2 : Int) (σ : Mm) : Option (Mm) :=
  ck ((0 : Int) ≤ (σ.1 44 0) ∧ (σ.1 44 0) < ((25 : Nat) : Int)) (ck ((0 : Int) ≤ ((stI σ 45 (Int.toNat (σ.1 44 0)) x1).1 44 0) ∧ ((stI σ 45 (Int.toNat (σ.1 44 0)) x1).1 44 0) < ((25 : Nat) : Int)) ((some (stI (stI σ 45 (Int.toNat (σ.1 44 0)) x1) 46 (Int.toNat ((stI σ 45 (Int.toNat (σ.1 44 0)) x1).1 44 0)) x2)).bind (fun σ8 => ck ((0 : Int) ≤ (σ8.1 44 0) ∧ (σ8.1 44 0) < ((25 : Nat) : Int)) (f_X1_push_32 2000 0 (stI σ8 47 (Int.toNat (σ8.1 44 0)) 0)))))
theorem hd_X1_push : yX1_push.cls = RX1 ∧ yX1_push.cls ≠ "java/lang/invoke/MethodHandle" ∧ yX1_push.cls ≠ "java/lang/invoke/VarHandle" ∧ (parseMethodDescriptor yX1_push.desc).map (fun d => d.parameters.length) = some 2 := by decide +kernel
set_option maxRecDepth 100000 in
set_option maxHeartbeats 4000000 in
theorem c_X1_push {l : Launch} {D : va_G} {ca : Nat → ClassId} {ad : Nat → Nat} {x1 : Int} {x2 : Int} (hx1 : inR x1) (hx2 : inR x2) {σ : Mm} : CtV l D vcl ca ad shC NC yX1_push (Cond.code yX1_push cX1_push 4 none :: tbG) { frames := 0, cells := 0, slots := 0, locals := 0 } [.ref (ad 44), .int (oi x1), .int (oi x2)] σ (f_X1_push x1 x2 σ) := by
  refine ct_V RX1 rfl (by decide) rfl (Nat.le_of_ble_eq_true rfl) (fun p e s m below meth c res X hN hr hlk => ?_)
  show GX1_push p l e s m _ below meth c D ca ad res 0 [(0, .ref (ad 44)), (1, .int (oi x1)), (2, .int (oi x2))] [] σ (f_X1_push x1 x2 σ)
  unfold f_X1_push
  refine q_aload_n X dX1_push_0 0 rfl ?_
  refine fg_X1_15 X dX1_push_1 ?_
  refine q_aload_n X dX1_push_4 0 rfl ?_
  refine fg_X1_9 X dX1_push_5 (fun h6 => ?_)
  refine q_iload_n X dX1_push_8 1 rfl ?_
  refine q_iast X hC45 (by decide) hx1 dX1_push_9 ?_
  refine q_aload_n X dX1_push_10 0 rfl ?_
  refine fg_X1_19 X dX1_push_11 ?_
  refine q_aload_n X dX1_push_14 0 rfl ?_
  refine fg_X1_9 X dX1_push_15 (fun h7 => ?_)
  refine q_iload_n X dX1_push_18 2 rfl ?_
  refine q_iast X hC46 (by decide) hx2 dX1_push_19 ?_
  refine q_nm (fun σ8 => ?_)
  refine q_aload_n X dX1_push_20 0 rfl ?_
  refine fg_X1_22 X dX1_push_21 ?_
  refine q_aload_n X dX1_push_24 0 rfl ?_
  refine fg_X1_9 X dX1_push_25 (fun h9 => ?_)
  refine q_iconst X dX1_push_28 ?_
  refine q_iast X hC47 (by decide) (by decide) dX1_push_29 ?_
  refine q_iconst X dX1_push_30 ?_
  refine q_istore_n X [(3, .int (oi 0)), (0, .ref (ad 44)), (1, .int (oi x1)), (2, .int (oi x2))] dX1_push_31 (by decide) rfl ?_
  refine q_sub [(0, .ref (ad 44)), (3, .int (oi 0))] [1, 0] rfl ?_
  exact t_X1_push_32 X hN hr hlk 2000 0 (stI σ8 47 (Int.toNat (σ8.1 44 0)) 0) (by decide)

/-! SiteObjects$Frames.topMethod()I -/
abbrev GX1_topMethod (p : Program) (l : Launch) (e : Env) (s : State) (m : MethodId) (args : Array Value) (below : List Frame) (meth : Method) (c : Code) (D : va_G) (ca : Nat → ClassId) (ad : Nat → Nat) (σ : Mm) (res : Int) : Nat → List (Nat × Value) → List Value → Mm → Option (Int) → Prop := G p l e { frames := 0, cells := 0, slots := 0, locals := 0 } s m args below meth c (MQ below (QcI D vcl ca ad shC s.heap.size (res, σ)) args s 0 0 (Aw ad shC.length s.heap.size)) 1 D vcl ca ad shC (Aw ad shC.length s.heap.size) res
def f_X1_topMethod (σ : Mm) : Option (Int) :=
  ck ((0 : Int) ≤ ((σ.1 44 0) - 1) ∧ ((σ.1 44 0) - 1) < ((25 : Nat) : Int)) (some (σ.1 45 (Int.toNat ((σ.1 44 0) - 1))))
theorem hd_X1_topMethod : yX1_topMethod.cls = RX1 ∧ yX1_topMethod.cls ≠ "java/lang/invoke/MethodHandle" ∧ yX1_topMethod.cls ≠ "java/lang/invoke/VarHandle" ∧ (parseMethodDescriptor yX1_topMethod.desc).map (fun d => d.parameters.length) = some 0 := by decide +kernel
set_option maxRecDepth 100000 in
set_option maxHeartbeats 4000000 in
theorem c_X1_topMethod {l : Launch} {D : va_G} {ca : Nat → ClassId} {ad : Nat → Nat} {σ : Mm} : CtI l D vcl ca ad shC NC yX1_topMethod (Cond.code yX1_topMethod cX1_topMethod 1 (some .int) :: tbG) { frames := 0, cells := 0, slots := 0, locals := 0 } [.ref (ad 44)] σ ((f_X1_topMethod σ).map (fun r => (r, σ))) := by
  refine ct_Ip RX1 rfl (by decide) rfl (Nat.le_of_ble_eq_true rfl) (fun p e s m below meth c res X hN hr hlk => ?_)
  show GX1_topMethod p l e s m _ below meth c D ca ad σ res 0 [(0, .ref (ad 44))] [] σ (f_X1_topMethod σ)
  unfold f_X1_topMethod
  refine q_aload_n X dX1_topMethod_0 0 rfl ?_
  refine fg_X1_15 X dX1_topMethod_1 ?_
  refine q_aload_n X dX1_topMethod_4 0 rfl ?_
  refine fg_X1_9 X dX1_topMethod_5 (fun h1 => ?_)
  refine q_iconst X dX1_topMethod_8 ?_
  refine q_isub X dX1_topMethod_9 ?_
  refine q_iald X hC45 (by decide) dX1_topMethod_10 (fun h2 => ?_)
  exact q_iretp X h2 hr hlk dX1_topMethod_11

/-! SiteObjects$Frames.topNode()I -/
abbrev GX1_topNode (p : Program) (l : Launch) (e : Env) (s : State) (m : MethodId) (args : Array Value) (below : List Frame) (meth : Method) (c : Code) (D : va_G) (ca : Nat → ClassId) (ad : Nat → Nat) (σ : Mm) (res : Int) : Nat → List (Nat × Value) → List Value → Mm → Option (Int) → Prop := G p l e { frames := 0, cells := 0, slots := 0, locals := 0 } s m args below meth c (MQ below (QcI D vcl ca ad shC s.heap.size (res, σ)) args s 0 0 (Aw ad shC.length s.heap.size)) 1 D vcl ca ad shC (Aw ad shC.length s.heap.size) res
def f_X1_topNode (σ : Mm) : Option (Int) :=
  ck ((0 : Int) ≤ ((σ.1 44 0) - 1) ∧ ((σ.1 44 0) - 1) < ((25 : Nat) : Int)) (some (σ.1 46 (Int.toNat ((σ.1 44 0) - 1))))
theorem hd_X1_topNode : yX1_topNode.cls = RX1 ∧ yX1_topNode.cls ≠ "java/lang/invoke/MethodHandle" ∧ yX1_topNode.cls ≠ "java/lang/invoke/VarHandle" ∧ (parseMethodDescriptor yX1_topNode.desc).map (fun d => d.parameters.length) = some 0 := by decide +kernel
set_option maxRecDepth 100000 in
set_option maxHeartbeats 4000000 in
theorem c_X1_topNode {l : Launch} {D : va_G} {ca : Nat → ClassId} {ad : Nat → Nat} {σ : Mm} : CtI l D vcl ca ad shC NC yX1_topNode (Cond.code yX1_topNode cX1_topNode 1 (some .int) :: tbG) { frames := 0, cells := 0, slots := 0, locals := 0 } [.ref (ad 44)] σ ((f_X1_topNode σ).map (fun r => (r, σ))) := by
  refine ct_Ip RX1 rfl (by decide) rfl (Nat.le_of_ble_eq_true rfl) (fun p e s m below meth c res X hN hr hlk => ?_)
  show GX1_topNode p l e s m _ below meth c D ca ad σ res 0 [(0, .ref (ad 44))] [] σ (f_X1_topNode σ)
  unfold f_X1_topNode
  refine q_aload_n X dX1_topNode_0 0 rfl ?_
  refine fg_X1_19 X dX1_topNode_1 ?_
  refine q_aload_n X dX1_topNode_4 0 rfl ?_
  refine fg_X1_9 X dX1_topNode_5 (fun h1 => ?_)
  refine q_iconst X dX1_topNode_8 ?_
  refine q_isub X dX1_topNode_9 ?_
  refine q_iald X hC46 (by decide) dX1_topNode_10 (fun h2 => ?_)
  exact q_iretp X h2 hr hlk dX1_topNode_11

/-! SiteObjects$Frames.topNext()I -/
abbrev GX1_topNext (p : Program) (l : Launch) (e : Env) (s : State) (m : MethodId) (args : Array Value) (below : List Frame) (meth : Method) (c : Code) (D : va_G) (ca : Nat → ClassId) (ad : Nat → Nat) (σ : Mm) (res : Int) : Nat → List (Nat × Value) → List Value → Mm → Option (Int) → Prop := G p l e { frames := 0, cells := 0, slots := 0, locals := 0 } s m args below meth c (MQ below (QcI D vcl ca ad shC s.heap.size (res, σ)) args s 0 0 (Aw ad shC.length s.heap.size)) 1 D vcl ca ad shC (Aw ad shC.length s.heap.size) res
def f_X1_topNext (σ : Mm) : Option (Int) :=
  ck ((0 : Int) ≤ ((σ.1 44 0) - 1) ∧ ((σ.1 44 0) - 1) < ((25 : Nat) : Int)) (some (σ.1 47 (Int.toNat ((σ.1 44 0) - 1))))
theorem hd_X1_topNext : yX1_topNext.cls = RX1 ∧ yX1_topNext.cls ≠ "java/lang/invoke/MethodHandle" ∧ yX1_topNext.cls ≠ "java/lang/invoke/VarHandle" ∧ (parseMethodDescriptor yX1_topNext.desc).map (fun d => d.parameters.length) = some 0 := by decide +kernel
set_option maxRecDepth 100000 in
set_option maxHeartbeats 4000000 in
theorem c_X1_topNext {l : Launch} {D : va_G} {ca : Nat → ClassId} {ad : Nat → Nat} {σ : Mm} : CtI l D vcl ca ad shC NC yX1_topNext (Cond.code yX1_topNext cX1_topNext 1 (some .int) :: tbG) { frames := 0, cells := 0, slots := 0, locals := 0 } [.ref (ad 44)] σ ((f_X1_topNext σ).map (fun r => (r, σ))) := by
  refine ct_Ip RX1 rfl (by decide) rfl (Nat.le_of_ble_eq_true rfl) (fun p e s m below meth c res X hN hr hlk => ?_)
  show GX1_topNext p l e s m _ below meth c D ca ad σ res 0 [(0, .ref (ad 44))] [] σ (f_X1_topNext σ)
  unfold f_X1_topNext
  refine q_aload_n X dX1_topNext_0 0 rfl ?_
  refine fg_X1_22 X dX1_topNext_1 ?_
  refine q_aload_n X dX1_topNext_4 0 rfl ?_
  refine fg_X1_9 X dX1_topNext_5 (fun h1 => ?_)
  refine q_iconst X dX1_topNext_8 ?_
  refine q_isub X dX1_topNext_9 ?_
  refine q_iald X hC47 (by decide) dX1_topNext_10 (fun h2 => ?_)
  exact q_iretp X h2 hr hlk dX1_topNext_11

/-! SiteObjects$Frames.goOnAt(I)V -/
abbrev GX1_goOnAt (p : Program) (l : Launch) (e : Env) (s : State) (m : MethodId) (args : Array Value) (below : List Frame) (meth : Method) (c : Code) (D : va_G) (ca : Nat → ClassId) (ad : Nat → Nat) (res : Mm) : Nat → List (Nat × Value) → List Value → Mm → Option (Mm) → Prop := G p l e { frames := 0, cells := 0, slots := 0, locals := 0 } s m args below meth c (MQ below (QcV D vcl ca ad shC s.heap.size res) args s 0 0 (Aw ad shC.length s.heap.size)) 2 D vcl ca ad shC (Aw ad shC.length s.heap.size) res
def f_X1_goOnAt (x1 : Int) (σ : Mm) : Option (Mm) :=
  ck ((0 : Int) ≤ ((σ.1 44 0) - 1) ∧ ((σ.1 44 0) - 1) < ((25 : Nat) : Int)) (some (stI σ 47 (Int.toNat ((σ.1 44 0) - 1)) x1))
theorem hd_X1_goOnAt : yX1_goOnAt.cls = RX1 ∧ yX1_goOnAt.cls ≠ "java/lang/invoke/MethodHandle" ∧ yX1_goOnAt.cls ≠ "java/lang/invoke/VarHandle" ∧ (parseMethodDescriptor yX1_goOnAt.desc).map (fun d => d.parameters.length) = some 1 := by decide +kernel
set_option maxRecDepth 100000 in
set_option maxHeartbeats 4000000 in
theorem c_X1_goOnAt {l : Launch} {D : va_G} {ca : Nat → ClassId} {ad : Nat → Nat} {x1 : Int} (hx1 : inR x1) {σ : Mm} : CtV l D vcl ca ad shC NC yX1_goOnAt (Cond.code yX1_goOnAt cX1_goOnAt 2 none :: tbG) { frames := 0, cells := 0, slots := 0, locals := 0 } [.ref (ad 44), .int (oi x1)] σ (f_X1_goOnAt x1 σ) := by
  refine ct_V RX1 rfl (by decide) rfl (Nat.le_of_ble_eq_true rfl) (fun p e s m below meth c res X hN hr hlk => ?_)
  show GX1_goOnAt p l e s m _ below meth c D ca ad res 0 [(0, .ref (ad 44)), (1, .int (oi x1))] [] σ (f_X1_goOnAt x1 σ)
  unfold f_X1_goOnAt
  refine q_aload_n X dX1_goOnAt_0 0 rfl ?_
  refine fg_X1_22 X dX1_goOnAt_1 ?_
  refine q_aload_n X dX1_goOnAt_4 0 rfl ?_
  refine fg_X1_9 X dX1_goOnAt_5 (fun h1 => ?_)
  refine q_iconst X dX1_goOnAt_8 ?_
  refine q_isub X dX1_goOnAt_9 ?_
  refine q_iload_n X dX1_goOnAt_10 1 rfl ?_
  refine q_iast X hC47 (by decide) hx1 dX1_goOnAt_11 ?_
  exact q_vret X hr hlk dX1_goOnAt_12

/-! SiteObjects$Frames.varOf(I)I -/
abbrev GX1_varOf (p : Program) (l : Launch) (e : Env) (s : State) (m : MethodId) (args : Array Value) (below : List Frame) (meth : Method) (c : Code) (D : va_G) (ca : Nat → ClassId) (ad : Nat → Nat) (σ : Mm) (res : Int) : Nat → List (Nat × Value) → List Value → Mm → Option (Int) → Prop := G p l e { frames := 0, cells := 0, slots := 0, locals := 0 } s m args below meth c (MQ below (QcI D vcl ca ad shC s.heap.size (res, σ)) args s 0 0 (Aw ad shC.length s.heap.size)) 2 D vcl ca ad shC (Aw ad shC.length s.heap.size) res
def f_X1_varOf (x1 : Int) (σ : Mm) : Option (Int) :=
  ck ((0 : Int) ≤ ((((σ.1 44 0) - 1) * 6) + x1) ∧ ((((σ.1 44 0) - 1) * 6) + x1) < ((150 : Nat) : Int)) (some (σ.1 48 (Int.toNat ((((σ.1 44 0) - 1) * 6) + x1))))
theorem hd_X1_varOf : yX1_varOf.cls = RX1 ∧ yX1_varOf.cls ≠ "java/lang/invoke/MethodHandle" ∧ yX1_varOf.cls ≠ "java/lang/invoke/VarHandle" ∧ (parseMethodDescriptor yX1_varOf.desc).map (fun d => d.parameters.length) = some 1 := by decide +kernel
set_option maxRecDepth 100000 in
set_option maxHeartbeats 4000000 in
theorem c_X1_varOf {l : Launch} {D : va_G} {ca : Nat → ClassId} {ad : Nat → Nat} {x1 : Int} (hx1 : inR x1) {σ : Mm} : CtI l D vcl ca ad shC NC yX1_varOf (Cond.code yX1_varOf cX1_varOf 2 (some .int) :: tbG) { frames := 0, cells := 0, slots := 0, locals := 0 } [.ref (ad 44), .int (oi x1)] σ ((f_X1_varOf x1 σ).map (fun r => (r, σ))) := by
  refine ct_Ip RX1 rfl (by decide) rfl (Nat.le_of_ble_eq_true rfl) (fun p e s m below meth c res X hN hr hlk => ?_)
  show GX1_varOf p l e s m _ below meth c D ca ad σ res 0 [(0, .ref (ad 44)), (1, .int (oi x1))] [] σ (f_X1_varOf x1 σ)
  unfold f_X1_varOf
  refine q_aload_n X dX1_varOf_0 0 rfl ?_
  refine fg_X1_25 X dX1_varOf_1 ?_
  refine q_aload_n X dX1_varOf_4 0 rfl ?_
  refine fg_X1_9 X dX1_varOf_5 (fun h1 => ?_)
  refine q_iconst X dX1_varOf_8 ?_
  refine q_isub X dX1_varOf_9 ?_
  refine q_bipush X dX1_varOf_10 (by decide) ?_
  refine q_imul X dX1_varOf_12 ?_
  refine q_iload_n X dX1_varOf_13 1 rfl ?_
  refine q_iadd X dX1_varOf_14 ?_
  refine q_iald X hC48 (by decide) dX1_varOf_15 (fun h2 => ?_)
  exact q_iretp X h2 hr hlk dX1_varOf_16

/-! SiteObjects$Frames.setVar(II)V -/
abbrev GX1_setVar (p : Program) (l : Launch) (e : Env) (s : State) (m : MethodId) (args : Array Value) (below : List Frame) (meth : Method) (c : Code) (D : va_G) (ca : Nat → ClassId) (ad : Nat → Nat) (res : Mm) : Nat → List (Nat × Value) → List Value → Mm → Option (Mm) → Prop := G p l e { frames := 0, cells := 0, slots := 0, locals := 0 } s m args below meth c (MQ below (QcV D vcl ca ad shC s.heap.size res) args s 0 0 (Aw ad shC.length s.heap.size)) 3 D vcl ca ad shC (Aw ad shC.length s.heap.size) res
def f_X1_setVar (x1 : Int) (x2 : Int) (σ : Mm) : Option (Mm) :=
  ck ((0 : Int) ≤ ((((σ.1 44 0) - 1) * 6) + x1) ∧ ((((σ.1 44 0) - 1) * 6) + x1) < ((150 : Nat) : Int)) (some (stI σ 48 (Int.toNat ((((σ.1 44 0) - 1) * 6) + x1)) x2))
theorem hd_X1_setVar : yX1_setVar.cls = RX1 ∧ yX1_setVar.cls ≠ "java/lang/invoke/MethodHandle" ∧ yX1_setVar.cls ≠ "java/lang/invoke/VarHandle" ∧ (parseMethodDescriptor yX1_setVar.desc).map (fun d => d.parameters.length) = some 2 := by decide +kernel
set_option maxRecDepth 100000 in
set_option maxHeartbeats 4000000 in
theorem c_X1_setVar {l : Launch} {D : va_G} {ca : Nat → ClassId} {ad : Nat → Nat} {x1 : Int} {x2 : Int} (hx1 : inR x1) (hx2 : inR x2) {σ : Mm} : CtV l D vcl ca ad shC NC yX1_setVar (Cond.code yX1_setVar cX1_setVar 3 none :: tbG) { frames := 0, cells := 0, slots := 0, locals := 0 } [.ref (ad 44), .int (oi x1), .int (oi x2)] σ (f_X1_setVar x1 x2 σ) := by
  refine ct_V RX1 rfl (by decide) rfl (Nat.le_of_ble_eq_true rfl) (fun p e s m below meth c res X hN hr hlk => ?_)
  show GX1_setVar p l e s m _ below meth c D ca ad res 0 [(0, .ref (ad 44)), (1, .int (oi x1)), (2, .int (oi x2))] [] σ (f_X1_setVar x1 x2 σ)
  unfold f_X1_setVar
  refine q_aload_n X dX1_setVar_0 0 rfl ?_
  refine fg_X1_25 X dX1_setVar_1 ?_
  refine q_aload_n X dX1_setVar_4 0 rfl ?_
  refine fg_X1_9 X dX1_setVar_5 (fun h1 => ?_)
  refine q_iconst X dX1_setVar_8 ?_
  refine q_isub X dX1_setVar_9 ?_
  refine q_bipush X dX1_setVar_10 (by decide) ?_
  refine q_imul X dX1_setVar_12 ?_
  refine q_iload_n X dX1_setVar_13 1 rfl ?_
  refine q_iadd X dX1_setVar_14 ?_
  refine q_iload_n X dX1_setVar_15 2 rfl ?_
  refine q_iast X hC48 (by decide) hx2 dX1_setVar_16 ?_
  exact q_vret X hr hlk dX1_setVar_17

/-! SiteObjects$Heap.clear()V -/
abbrev GX2_clear (p : Program) (l : Launch) (e : Env) (s : State) (m : MethodId) (args : Array Value) (below : List Frame) (meth : Method) (c : Code) (D : va_G) (ca : Nat → ClassId) (ad : Nat → Nat) (res : Mm) : Nat → List (Nat × Value) → List Value → Mm → Option (Mm) → Prop := G p l e { frames := 1, cells := 0, slots := 0, locals := 23 } s m args below meth c (MQ below (QcV D vcl ca ad shC s.heap.size res) args s 0 0 (Aw ad shC.length s.heap.size)) 1 D vcl ca ad shC (Aw ad shC.length s.heap.size) res
def f_X2_clear (σ : Mm) : Option (Mm) :=
  (f_J7_fill_53178 4 55 (-9) (stI σ 50 1 0)).bind (fun r1 => some r1)
theorem hd_X2_clear : yX2_clear.cls = RX2 ∧ yX2_clear.cls ≠ "java/lang/invoke/MethodHandle" ∧ yX2_clear.cls ≠ "java/lang/invoke/VarHandle" ∧ (parseMethodDescriptor yX2_clear.desc).map (fun d => d.parameters.length) = some 0 := by decide +kernel
set_option maxRecDepth 100000 in
set_option maxHeartbeats 4000000 in
theorem c_X2_clear {l : Launch} {D : va_G} {ca : Nat → ClassId} {ad : Nat → Nat} {σ : Mm} : CtV l D vcl ca ad shC NC yX2_clear (Cond.code yX2_clear cX2_clear 1 none :: tbG) { frames := 1, cells := 0, slots := 0, locals := 23 } [.ref (ad 50)] σ (f_X2_clear σ) := by
  refine ct_V RX2 rfl (by decide) rfl (Nat.le_of_ble_eq_true rfl) (fun p e s m below meth c res X hN hr hlk => ?_)
  show GX2_clear p l e s m _ below meth c D ca ad res 0 [(0, .ref (ad 50))] [] σ (f_X2_clear σ)
  unfold f_X2_clear
  refine q_aload_n X dX2_clear_0 0 rfl ?_
  refine q_iconst X dX2_clear_1 ?_
  refine fp_X2_9 X (by decide) dX2_clear_2 ?_
  refine q_aload_n X dX2_clear_5 0 rfl ?_
  refine fg_X2_28 X dX2_clear_6 ?_
  refine q_bipush X dX2_clear_9 (by decide) ?_
  refine q_callV X NCok hN Aw_new (c_J7_fill_53178 hC55 (by decide) (by decide)) (rn_S X (va_cwS 2 X.2.2.2.2.1 (tbG_good _ (tbG_S mw_607 mw_27 mw_3 mw_28)) rfl rfl rfl hd_J7_fill_53178 ⟨by decide, by decide⟩) rfl rfl (Nat.le_of_ble_eq_true rfl) dX2_clear_11) (fun r1 _ => ?_)
  exact q_vret X hr hlk dX2_clear_14

/-! SiteObjects$Heap.add(III)I -/
abbrev GX2_add (p : Program) (l : Launch) (e : Env) (s : State) (m : MethodId) (args : Array Value) (below : List Frame) (meth : Method) (c : Code) (D : va_G) (ca : Nat → ClassId) (ad : Nat → Nat) (res : Int × Mm) : Nat → List (Nat × Value) → List Value → Mm → Option (Int × Mm) → Prop := G p l e { frames := 0, cells := 0, slots := 0, locals := 0 } s m args below meth c (MQ below (QcI D vcl ca ad shC s.heap.size res) args s 0 0 (Aw ad shC.length s.heap.size)) 6 D vcl ca ad shC (Aw ad shC.length s.heap.size) res
def f_X2_add_46 : Nat → Int → Int → Mm → Option (Int × Mm)
  | 0, _, _, _ => none
  | n + 1, x4, x5, σ => (if 5 ≤ x5 then ck (inR ((σ.1 50 1) + 1)) (some (x4, (stI σ 50 1 ((σ.1 50 1) + 1)))) else ck ((0 : Int) ≤ ((x4 * 5) + x5) ∧ ((x4 * 5) + x5) < ((1500 : Nat) : Int)) (ck (inR (x5 + 1)) (f_X2_add_46 n x4 (x5 + 1) (stI σ 54 (Int.toNat ((x4 * 5) + x5)) (-9)))))
set_option maxRecDepth 100000 in
set_option maxHeartbeats 4000000 in
theorem t_X2_add_46 {p : Program} {l : Launch} {e : Env} {s : State} {m : MethodId} {args : Array Value} {below : List Frame} {meth : Method} {c : Code} {D : va_G} {ca : Nat → ClassId} {ad : Nat → Nat} {res : Int × Mm} (X : Cx p s m args c cX2_add 6 RX2 (Cond.code yX2_add cX2_add 6 (some .int) :: tbG) D vcl ca) (hN : NC s) (hr : meth.sig.returnType = (some .int)) (hlk : meth.locks = false) : ∀ (n : Nat) (x4 : Int) (x5 : Int) (σ : Mm), inR x4 → inR x5 → GX2_add p l e s m args below meth c D ca ad res 46 [(0, .ref (ad 50)), (4, .int (oi x4)), (5, .int (oi x5))] [] σ (f_X2_add_46 n x4 x5 σ)
  := by
  intro n
  induction n with
  | zero => intro x4 x5 σ hx4 hx5 h; cases h
  | succ n ih =>
    intro x4 x5 σ hx4 hx5
    rw [f_X2_add_46]
    refine q_iload X dX2_add_46 2 rfl ?_
    refine q_iconst X dX2_add_48 ?_
    refine q_icmp_ge X hx5 (by decide) 72 dX2_add_49 (by decide) (fun h1 => ?_) (fun h1 => ?_)
    · refine q_aload_n X dX2_add_72 0 rfl ?_
      refine q_dup X dX2_add_73 rfl ?_
      refine fg_X2_9 X dX2_add_74 (fun h2 => ?_)
      refine q_iconst X dX2_add_77 ?_
      refine q_iadd X dX2_add_78 ?_
      refine q_ck (fun h3 => ?_)
      refine fp_X2_9 X h3 dX2_add_79 ?_
      refine q_iload X dX2_add_82 1 rfl ?_
      exact q_iret X hx4 hr hlk dX2_add_84
    · refine q_aload_n X dX2_add_52 0 rfl ?_
      refine fg_X2_25 X dX2_add_53 ?_
      refine q_iload X dX2_add_56 1 rfl ?_
      refine q_iconst X dX2_add_58 ?_
      refine q_imul X dX2_add_59 ?_
      refine q_iload X dX2_add_60 2 rfl ?_
      refine q_iadd X dX2_add_62 ?_
      refine q_bipush X dX2_add_63 (by decide) ?_
      refine q_iast X hC54 (by decide) (by decide) dX2_add_65 ?_
      refine q_iinc X [(5, .int (oi (x5 + 1))), (0, .ref (ad 50)), (4, .int (oi x4))] dX2_add_66 (by decide) 2 rfl rfl (fun h4 => ?_)
      refine q_goto X 46 dX2_add_69 (by decide) ?_
      refine q_sub [(0, .ref (ad 50)), (4, .int (oi x4)), (5, .int (oi (x5 + 1)))] [1, 2, 0] rfl ?_
      exact ih x4 (x5 + 1) (stI σ 54 (Int.toNat ((x4 * 5) + x5)) (-9)) hx4 h4
def f_X2_add (x1 : Int) (x2 : Int) (x3 : Int) (σ : Mm) : Option (Int × Mm) :=
  (if (σ.1 50 1) < 300 then ck ((0 : Int) ≤ (σ.1 50 1) ∧ (σ.1 50 1) < ((300 : Nat) : Int)) (ck ((0 : Int) ≤ (σ.1 50 1) ∧ (σ.1 50 1) < ((300 : Nat) : Int)) ((some (stI (stI σ 51 (Int.toNat (σ.1 50 1)) x1) 52 (Int.toNat (σ.1 50 1)) x2)).bind (fun σ8 => ck ((0 : Int) ≤ (σ.1 50 1) ∧ (σ.1 50 1) < ((300 : Nat) : Int)) (f_X2_add_46 2000 (σ.1 50 1) 0 (stI σ8 53 (Int.toNat (σ.1 50 1)) x3))))) else some ((-9), σ))
theorem hd_X2_add : yX2_add.cls = RX2 ∧ yX2_add.cls ≠ "java/lang/invoke/MethodHandle" ∧ yX2_add.cls ≠ "java/lang/invoke/VarHandle" ∧ (parseMethodDescriptor yX2_add.desc).map (fun d => d.parameters.length) = some 3 := by decide +kernel
set_option maxRecDepth 100000 in
set_option maxHeartbeats 4000000 in
theorem c_X2_add {l : Launch} {D : va_G} {ca : Nat → ClassId} {ad : Nat → Nat} {x1 : Int} {x2 : Int} {x3 : Int} (hx1 : inR x1) (hx2 : inR x2) (hx3 : inR x3) {σ : Mm} : CtI l D vcl ca ad shC NC yX2_add (Cond.code yX2_add cX2_add 6 (some .int) :: tbG) { frames := 0, cells := 0, slots := 0, locals := 0 } [.ref (ad 50), .int (oi x1), .int (oi x2), .int (oi x3)] σ (f_X2_add x1 x2 x3 σ) := by
  refine ct_I RX2 rfl (by decide) rfl (Nat.le_of_ble_eq_true rfl) (fun p e s m below meth c res X hN hr hlk => ?_)
  show GX2_add p l e s m _ below meth c D ca ad res 0 [(0, .ref (ad 50)), (1, .int (oi x1)), (2, .int (oi x2)), (3, .int (oi x3))] [] σ (f_X2_add x1 x2 x3 σ)
  unfold f_X2_add
  refine q_aload_n X dX2_add_0 0 rfl ?_
  refine fg_X2_9 X dX2_add_1 (fun h5 => ?_)
  refine q_sipush X dX2_add_4 (by decide) ?_
  refine q_icmp_lt X h5 (by decide) 13 dX2_add_7 (by decide) (fun h6 => ?_) (fun h6 => ?_)
  · refine q_aload_n X dX2_add_13 0 rfl ?_
    refine fg_X2_9 X dX2_add_14 (fun h7 => ?_)
    refine q_istore X [(4, .int (oi (σ.1 50 1))), (0, .ref (ad 50)), (1, .int (oi x1)), (2, .int (oi x2)), (3, .int (oi x3))] dX2_add_17 (by decide) rfl ?_
    refine q_aload_n X dX2_add_19 1 rfl ?_
    refine fg_X2_15 X dX2_add_20 ?_
    refine q_iload X dX2_add_23 0 rfl ?_
    refine q_iload_n X dX2_add_25 2 rfl ?_
    refine q_iast X hC51 (by decide) hx1 dX2_add_26 ?_
    refine q_aload_n X dX2_add_27 1 rfl ?_
    refine fg_X2_19 X dX2_add_28 ?_
    refine q_iload X dX2_add_31 0 rfl ?_
    refine q_iload_n X dX2_add_33 3 rfl ?_
    refine q_iast X hC52 (by decide) hx2 dX2_add_34 ?_
    refine q_nm (fun σ8 => ?_)
    refine q_aload_n X dX2_add_35 1 rfl ?_
    refine fg_X2_22 X dX2_add_36 ?_
    refine q_iload X dX2_add_39 0 rfl ?_
    refine q_iload_n X dX2_add_41 4 rfl ?_
    refine q_iast X hC53 (by decide) hx3 dX2_add_42 ?_
    refine q_iconst X dX2_add_43 ?_
    refine q_istore X [(5, .int (oi 0)), (4, .int (oi (σ.1 50 1))), (0, .ref (ad 50)), (1, .int (oi x1)), (2, .int (oi x2)), (3, .int (oi x3))] dX2_add_44 (by decide) rfl ?_
    refine q_sub [(0, .ref (ad 50)), (4, .int (oi (σ.1 50 1))), (5, .int (oi 0))] [2, 1, 0] rfl ?_
    exact t_X2_add_46 X hN hr hlk 2000 (σ.1 50 1) 0 (stI σ8 53 (Int.toNat (σ.1 50 1)) x3) h7 (by decide)
  · refine q_bipush X dX2_add_10 (by decide) ?_
    exact q_iret X (by decide) hr hlk dX2_add_12

/-! SiteObjects$Heap.isRow(I)Z -/
abbrev GX2_isRow (p : Program) (l : Launch) (e : Env) (s : State) (m : MethodId) (args : Array Value) (below : List Frame) (meth : Method) (c : Code) (D : va_G) (ca : Nat → ClassId) (ad : Nat → Nat) (σ : Mm) (res : Int) : Nat → List (Nat × Value) → List Value → Mm → Option (Int) → Prop := G p l e { frames := 0, cells := 0, slots := 0, locals := 0 } s m args below meth c (MQ below (QcI D vcl ca ad shC s.heap.size (res, σ)) args s 0 0 (Aw ad shC.length s.heap.size)) 2 D vcl ca ad shC (Aw ad shC.length s.heap.size) res
def f_X2_isRow (x1 : Int) (σ : Mm) : Option (Int) :=
  ck ((0 : Int) ≤ x1 ∧ x1 < ((300 : Nat) : Int)) (ck ((0 : Int) ≤ (σ.1 51 (Int.toNat x1)) ∧ (σ.1 51 (Int.toNat x1)) < ((90 : Nat) : Int)) ((if (σ.1 8 (Int.toNat (σ.1 51 (Int.toNat x1)))) = 1 then some 1 else some 0)))
theorem hd_X2_isRow : yX2_isRow.cls = RX2 ∧ yX2_isRow.cls ≠ "java/lang/invoke/MethodHandle" ∧ yX2_isRow.cls ≠ "java/lang/invoke/VarHandle" ∧ (parseMethodDescriptor yX2_isRow.desc).map (fun d => d.parameters.length) = some 1 := by decide +kernel
set_option maxRecDepth 100000 in
set_option maxHeartbeats 4000000 in
theorem c_X2_isRow {l : Launch} {D : va_G} {ca : Nat → ClassId} {ad : Nat → Nat} {x1 : Int} (hx1 : inR x1) {σ : Mm} : CtI l D vcl ca ad shC NC yX2_isRow (Cond.code yX2_isRow cX2_isRow 2 (some .boolean) :: tbG) { frames := 0, cells := 0, slots := 0, locals := 0 } [.ref (ad 50), .int (oi x1)] σ ((f_X2_isRow x1 σ).map (fun r => (r, σ))) := by
  refine ct_Ip RX2 rfl (by decide) rfl (Nat.le_of_ble_eq_true rfl) (fun p e s m below meth c res X hN hr hlk => ?_)
  show GX2_isRow p l e s m _ below meth c D ca ad σ res 0 [(0, .ref (ad 50)), (1, .int (oi x1))] [] σ (f_X2_isRow x1 σ)
  unfold f_X2_isRow
  refine q_aload_n X dX2_isRow_0 0 rfl ?_
  refine fg_X2_31 X dX2_isRow_1 ?_
  refine fg_X2_41 X dX2_isRow_4 ?_
  refine q_aload_n X dX2_isRow_7 0 rfl ?_
  refine fg_X2_15 X dX2_isRow_8 ?_
  refine q_iload_n X dX2_isRow_11 1 rfl ?_
  refine q_iald X hC51 (by decide) dX2_isRow_12 (fun h1 => ?_)
  refine q_iald X hC8 (by decide) dX2_isRow_13 (fun h2 => ?_)
  refine q_iconst X dX2_isRow_14 ?_
  refine q_icmp_ne X h2 (by decide) 22 dX2_isRow_15 (by decide) (fun h3 => ?_) (fun h3 => ?_)
  · refine q_iconst X dX2_isRow_18 ?_
    refine q_goto X 23 dX2_isRow_19 (by decide) ?_
    exact q_zretp X (Or.inr rfl) hr hlk dX2_isRow_23
  · refine q_iconst X dX2_isRow_22 ?_
    exact q_zretp X (Or.inl rfl) hr hlk dX2_isRow_23

/-! SiteObjects$Heap.classOf(I)I -/
abbrev GX2_classOf (p : Program) (l : Launch) (e : Env) (s : State) (m : MethodId) (args : Array Value) (below : List Frame) (meth : Method) (c : Code) (D : va_G) (ca : Nat → ClassId) (ad : Nat → Nat) (σ : Mm) (res : Int) : Nat → List (Nat × Value) → List Value → Mm → Option (Int) → Prop := G p l e { frames := 1, cells := 0, slots := 0, locals := 21 } s m args below meth c (MQ below (QcI D vcl ca ad shC s.heap.size (res, σ)) args s 0 0 (Aw ad shC.length s.heap.size)) 2 D vcl ca ad shC (Aw ad shC.length s.heap.size) res
def f_X2_classOf (x1 : Int) (σ : Mm) : Option (Int) :=
  ck ((0 : Int) ≤ x1 ∧ x1 < ((300 : Nat) : Int)) ((f_X3_madeClass (σ.1 51 (Int.toNat x1)) σ).bind (fun r2 => some r2))
theorem hd_X2_classOf : yX2_classOf.cls = RX2 ∧ yX2_classOf.cls ≠ "java/lang/invoke/MethodHandle" ∧ yX2_classOf.cls ≠ "java/lang/invoke/VarHandle" ∧ (parseMethodDescriptor yX2_classOf.desc).map (fun d => d.parameters.length) = some 1 := by decide +kernel
set_option maxRecDepth 100000 in
set_option maxHeartbeats 4000000 in
theorem c_X2_classOf {l : Launch} {D : va_G} {ca : Nat → ClassId} {ad : Nat → Nat} {x1 : Int} (hx1 : inR x1) {σ : Mm} : CtI l D vcl ca ad shC NC yX2_classOf (Cond.code yX2_classOf cX2_classOf 2 (some .int) :: tbG) { frames := 1, cells := 0, slots := 0, locals := 21 } [.ref (ad 50), .int (oi x1)] σ ((f_X2_classOf x1 σ).map (fun r => (r, σ))) := by
  refine ct_Ip RX2 rfl (by decide) rfl (Nat.le_of_ble_eq_true rfl) (fun p e s m below meth c res X hN hr hlk => ?_)
  show GX2_classOf p l e s m _ below meth c D ca ad σ res 0 [(0, .ref (ad 50)), (1, .int (oi x1))] [] σ (f_X2_classOf x1 σ)
  unfold f_X2_classOf
  refine q_aload_n X dX2_classOf_0 0 rfl ?_
  refine fg_X2_31 X dX2_classOf_1 ?_
  refine q_aload_n X dX2_classOf_4 0 rfl ?_
  refine fg_X2_15 X dX2_classOf_5 ?_
  refine q_iload_n X dX2_classOf_8 1 rfl ?_
  refine q_iald X hC51 (by decide) dX2_classOf_9 (fun h1 => ?_)
  refine q_callIp X NCok hN Aw_new (c_X3_madeClass h1) (rn_V X (cwV 1 X.2.2.2.2.1 (tbG_good _ (tbG_V mw_726 mw_448 mw_449 mw_2 mw_450)) rfl rfl rfl hd_X3_madeClass ⟨by decide, by decide⟩) hC1 rfl rfl rfl (Nat.le_of_ble_eq_true rfl) dX2_classOf_10) (fun r2 _ h4 => ?_)
  exact q_iretp X h4 hr hlk dX2_classOf_13

/-! SiteObjects$Heap.rowClass(I)I -/
abbrev GX2_rowClass (p : Program) (l : Launch) (e : Env) (s : State) (m : MethodId) (args : Array Value) (below : List Frame) (meth : Method) (c : Code) (D : va_G) (ca : Nat → ClassId) (ad : Nat → Nat) (σ : Mm) (res : Int) : Nat → List (Nat × Value) → List Value → Mm → Option (Int) → Prop := G p l e { frames := 0, cells := 0, slots := 0, locals := 0 } s m args below meth c (MQ below (QcI D vcl ca ad shC s.heap.size (res, σ)) args s 0 0 (Aw ad shC.length s.heap.size)) 2 D vcl ca ad shC (Aw ad shC.length s.heap.size) res
def f_X2_rowClass (x1 : Int) (σ : Mm) : Option (Int) :=
  ck ((0 : Int) ≤ x1 ∧ x1 < ((300 : Nat) : Int)) (ck ((0 : Int) ≤ (σ.1 51 (Int.toNat x1)) ∧ (σ.1 51 (Int.toNat x1)) < ((90 : Nat) : Int)) (some (σ.1 10 (Int.toNat (σ.1 51 (Int.toNat x1))))))
theorem hd_X2_rowClass : yX2_rowClass.cls = RX2 ∧ yX2_rowClass.cls ≠ "java/lang/invoke/MethodHandle" ∧ yX2_rowClass.cls ≠ "java/lang/invoke/VarHandle" ∧ (parseMethodDescriptor yX2_rowClass.desc).map (fun d => d.parameters.length) = some 1 := by decide +kernel
set_option maxRecDepth 100000 in
set_option maxHeartbeats 4000000 in
theorem c_X2_rowClass {l : Launch} {D : va_G} {ca : Nat → ClassId} {ad : Nat → Nat} {x1 : Int} (hx1 : inR x1) {σ : Mm} : CtI l D vcl ca ad shC NC yX2_rowClass (Cond.code yX2_rowClass cX2_rowClass 2 (some .int) :: tbG) { frames := 0, cells := 0, slots := 0, locals := 0 } [.ref (ad 50), .int (oi x1)] σ ((f_X2_rowClass x1 σ).map (fun r => (r, σ))) := by
  refine ct_Ip RX2 rfl (by decide) rfl (Nat.le_of_ble_eq_true rfl) (fun p e s m below meth c res X hN hr hlk => ?_)
  show GX2_rowClass p l e s m _ below meth c D ca ad σ res 0 [(0, .ref (ad 50)), (1, .int (oi x1))] [] σ (f_X2_rowClass x1 σ)
  unfold f_X2_rowClass
  refine q_aload_n X dX2_rowClass_0 0 rfl ?_
  refine fg_X2_31 X dX2_rowClass_1 ?_
  refine fg_X2_50 X dX2_rowClass_4 ?_
  refine q_aload_n X dX2_rowClass_7 0 rfl ?_
  refine fg_X2_15 X dX2_rowClass_8 ?_
  refine q_iload_n X dX2_rowClass_11 1 rfl ?_
  refine q_iald X hC51 (by decide) dX2_rowClass_12 (fun h1 => ?_)
  refine q_iald X hC10 (by decide) dX2_rowClass_13 (fun h2 => ?_)
  exact q_iretp X h2 hr hlk dX2_rowClass_14

/-! SiteObjects$Heap.hasPlace(II)Z -/
abbrev GX2_hasPlace (p : Program) (l : Launch) (e : Env) (s : State) (m : MethodId) (args : Array Value) (below : List Frame) (meth : Method) (c : Code) (D : va_G) (ca : Nat → ClassId) (ad : Nat → Nat) (σ : Mm) (res : Int) : Nat → List (Nat × Value) → List Value → Mm → Option (Int) → Prop := G p l e { frames := 1, cells := 0, slots := 0, locals := 21 } s m args below meth c (MQ below (QcI D vcl ca ad shC s.heap.size (res, σ)) args s 0 0 (Aw ad shC.length s.heap.size)) 3 D vcl ca ad shC (Aw ad shC.length s.heap.size) res
def f_X2_hasPlace (x1 : Int) (x2 : Int) (σ : Mm) : Option (Int) :=
  ck ((0 : Int) ≤ x1 ∧ x1 < ((300 : Nat) : Int)) (ck ((0 : Int) ≤ (σ.1 51 (Int.toNat x1)) ∧ (σ.1 51 (Int.toNat x1)) < ((90 : Nat) : Int)) ((f_X6_isIn x2 (σ.1 11 (Int.toNat (σ.1 51 (Int.toNat x1)))) σ).bind (fun r3 => ck (r3 = 0 ∨ r3 = 1) (some r3))))
theorem hd_X2_hasPlace : yX2_hasPlace.cls = RX2 ∧ yX2_hasPlace.cls ≠ "java/lang/invoke/MethodHandle" ∧ yX2_hasPlace.cls ≠ "java/lang/invoke/VarHandle" ∧ (parseMethodDescriptor yX2_hasPlace.desc).map (fun d => d.parameters.length) = some 2 := by decide +kernel
set_option maxRecDepth 100000 in
set_option maxHeartbeats 4000000 in
theorem c_X2_hasPlace {l : Launch} {D : va_G} {ca : Nat → ClassId} {ad : Nat → Nat} {x1 : Int} {x2 : Int} (hx1 : inR x1) (hx2 : inR x2) {σ : Mm} : CtI l D vcl ca ad shC NC yX2_hasPlace (Cond.code yX2_hasPlace cX2_hasPlace 3 (some .boolean) :: tbG) { frames := 1, cells := 0, slots := 0, locals := 21 } [.ref (ad 50), .int (oi x1), .int (oi x2)] σ ((f_X2_hasPlace x1 x2 σ).map (fun r => (r, σ))) := by
  refine ct_Ip RX2 rfl (by decide) rfl (Nat.le_of_ble_eq_true rfl) (fun p e s m below meth c res X hN hr hlk => ?_)
  show GX2_hasPlace p l e s m _ below meth c D ca ad σ res 0 [(0, .ref (ad 50)), (1, .int (oi x1)), (2, .int (oi x2))] [] σ (f_X2_hasPlace x1 x2 σ)
  unfold f_X2_hasPlace
  refine q_iload_n X dX2_hasPlace_0 2 rfl ?_
  refine q_aload_n X dX2_hasPlace_1 0 rfl ?_
  refine fg_X2_31 X dX2_hasPlace_2 ?_
  refine fg_X2_53 X dX2_hasPlace_5 ?_
  refine q_aload_n X dX2_hasPlace_8 0 rfl ?_
  refine fg_X2_15 X dX2_hasPlace_9 ?_
  refine q_iload_n X dX2_hasPlace_12 1 rfl ?_
  refine q_iald X hC51 (by decide) dX2_hasPlace_13 (fun h1 => ?_)
  refine q_iald X hC11 (by decide) dX2_hasPlace_14 (fun h2 => ?_)
  refine q_callIp X NCok hN Aw_new (c_X6_isIn hx2 h2) (rn_SN X ⟨va_cnB 2 X.2.2.2.2.1 (tbG_good _ (tbG_cons mw_329)) rfl rfl rfl hN.2 (X.2.2.2.2.1 _ (List.mem_cons_of_mem _ mw_1)) hd_X6_isIn ⟨by decide, by decide⟩, X.2.2.2.2.1 _ (List.mem_cons_of_mem _ mw_328), trivial⟩ rfl rfl (Nat.le_of_ble_eq_true rfl) dX2_hasPlace_15) (fun r3 _ h5 => ?_)
  refine q_ck (fun h6 => ?_)
  exact q_zretp X h6 hr hlk dX2_hasPlace_18

/-! SiteObjects$Heap.fieldOf(II)I -/
abbrev GX2_fieldOf (p : Program) (l : Launch) (e : Env) (s : State) (m : MethodId) (args : Array Value) (below : List Frame) (meth : Method) (c : Code) (D : va_G) (ca : Nat → ClassId) (ad : Nat → Nat) (σ : Mm) (res : Int) : Nat → List (Nat × Value) → List Value → Mm → Option (Int) → Prop := G p l e { frames := 1, cells := 0, slots := 0, locals := 21 } s m args below meth c (MQ below (QcI D vcl ca ad shC s.heap.size (res, σ)) args s 0 0 (Aw ad shC.length s.heap.size)) 3 D vcl ca ad shC (Aw ad shC.length s.heap.size) res
def f_X2_fieldOf (x1 : Int) (x2 : Int) (σ : Mm) : Option (Int) :=
  (f_X2_isRow x1 σ).bind (fun r1 => (if r1 = 0 then ck ((0 : Int) ≤ ((x1 * 5) + x2) ∧ ((x1 * 5) + x2) < ((1500 : Nat) : Int)) (some (σ.1 54 (Int.toNat ((x1 * 5) + x2)))) else some (-9)))
theorem hd_X2_fieldOf : yX2_fieldOf.cls = RX2 ∧ yX2_fieldOf.cls ≠ "java/lang/invoke/MethodHandle" ∧ yX2_fieldOf.cls ≠ "java/lang/invoke/VarHandle" ∧ (parseMethodDescriptor yX2_fieldOf.desc).map (fun d => d.parameters.length) = some 2 := by decide +kernel
set_option maxRecDepth 100000 in
set_option maxHeartbeats 4000000 in
theorem c_X2_fieldOf {l : Launch} {D : va_G} {ca : Nat → ClassId} {ad : Nat → Nat} {x1 : Int} {x2 : Int} (hx1 : inR x1) (hx2 : inR x2) {σ : Mm} : CtI l D vcl ca ad shC NC yX2_fieldOf (Cond.code yX2_fieldOf cX2_fieldOf 3 (some .int) :: tbG) { frames := 1, cells := 0, slots := 0, locals := 21 } [.ref (ad 50), .int (oi x1), .int (oi x2)] σ ((f_X2_fieldOf x1 x2 σ).map (fun r => (r, σ))) := by
  refine ct_Ip RX2 rfl (by decide) rfl (Nat.le_of_ble_eq_true rfl) (fun p e s m below meth c res X hN hr hlk => ?_)
  show GX2_fieldOf p l e s m _ below meth c D ca ad σ res 0 [(0, .ref (ad 50)), (1, .int (oi x1)), (2, .int (oi x2))] [] σ (f_X2_fieldOf x1 x2 σ)
  unfold f_X2_fieldOf
  refine q_aload_n X dX2_fieldOf_0 0 rfl ?_
  refine q_iload_n X dX2_fieldOf_1 1 rfl ?_
  refine q_callIp X NCok hN Aw_new (c_X2_isRow hx1) (rn_V X (cwV 1 X.2.2.2.2.1 (tbG_good _ (tbG_V mw_691 mw_684 mw_685 mw_8 mw_686)) rfl rfl rfl hd_X2_isRow ⟨by decide, by decide⟩) hC50 rfl rfl rfl (Nat.le_of_ble_eq_true rfl) dX2_fieldOf_2) (fun r1 _ h3 => ?_)
  refine q_if_eq X h3 13 dX2_fieldOf_5 (by decide) (fun h4 => ?_) (fun h4 => ?_)
  · refine q_aload_n X dX2_fieldOf_13 0 rfl ?_
    refine fg_X2_25 X dX2_fieldOf_14 ?_
    refine q_iload_n X dX2_fieldOf_17 1 rfl ?_
    refine q_iconst X dX2_fieldOf_18 ?_
    refine q_imul X dX2_fieldOf_19 ?_
    refine q_iload_n X dX2_fieldOf_20 2 rfl ?_
    refine q_iadd X dX2_fieldOf_21 ?_
    refine q_iald X hC54 (by decide) dX2_fieldOf_22 (fun h5 => ?_)
    exact q_iretp X h5 hr hlk dX2_fieldOf_23
  · refine q_bipush X dX2_fieldOf_8 (by decide) ?_
    refine q_goto X 23 dX2_fieldOf_10 (by decide) ?_
    exact q_iretp X (by decide) hr hlk dX2_fieldOf_23

/-! SiteObjects$Heap.placeOf(II)I -/
abbrev GX2_placeOf (p : Program) (l : Launch) (e : Env) (s : State) (m : MethodId) (args : Array Value) (below : List Frame) (meth : Method) (c : Code) (D : va_G) (ca : Nat → ClassId) (ad : Nat → Nat) (σ : Mm) (res : Int) : Nat → List (Nat × Value) → List Value → Mm → Option (Int) → Prop := G p l e { frames := 1, cells := 0, slots := 0, locals := 21 } s m args below meth c (MQ below (QcI D vcl ca ad shC s.heap.size (res, σ)) args s 0 0 (Aw ad shC.length s.heap.size)) 3 D vcl ca ad shC (Aw ad shC.length s.heap.size) res
def f_X2_placeOf (x1 : Int) (x2 : Int) (σ : Mm) : Option (Int) :=
  (f_X2_isRow x1 σ).bind (fun r1 => (if r1 = 0 then some (-9) else ck ((0 : Int) ≤ ((x1 * 5) + x2) ∧ ((x1 * 5) + x2) < ((1500 : Nat) : Int)) (some (σ.1 54 (Int.toNat ((x1 * 5) + x2))))))
theorem hd_X2_placeOf : yX2_placeOf.cls = RX2 ∧ yX2_placeOf.cls ≠ "java/lang/invoke/MethodHandle" ∧ yX2_placeOf.cls ≠ "java/lang/invoke/VarHandle" ∧ (parseMethodDescriptor yX2_placeOf.desc).map (fun d => d.parameters.length) = some 2 := by decide +kernel
set_option maxRecDepth 100000 in
set_option maxHeartbeats 4000000 in
theorem c_X2_placeOf {l : Launch} {D : va_G} {ca : Nat → ClassId} {ad : Nat → Nat} {x1 : Int} {x2 : Int} (hx1 : inR x1) (hx2 : inR x2) {σ : Mm} : CtI l D vcl ca ad shC NC yX2_placeOf (Cond.code yX2_placeOf cX2_placeOf 3 (some .int) :: tbG) { frames := 1, cells := 0, slots := 0, locals := 21 } [.ref (ad 50), .int (oi x1), .int (oi x2)] σ ((f_X2_placeOf x1 x2 σ).map (fun r => (r, σ))) := by
  refine ct_Ip RX2 rfl (by decide) rfl (Nat.le_of_ble_eq_true rfl) (fun p e s m below meth c res X hN hr hlk => ?_)
  show GX2_placeOf p l e s m _ below meth c D ca ad σ res 0 [(0, .ref (ad 50)), (1, .int (oi x1)), (2, .int (oi x2))] [] σ (f_X2_placeOf x1 x2 σ)
  unfold f_X2_placeOf
  refine q_aload_n X dX2_placeOf_0 0 rfl ?_
  refine q_iload_n X dX2_placeOf_1 1 rfl ?_
  refine q_callIp X NCok hN Aw_new (c_X2_isRow hx1) (rn_V X (cwV 1 X.2.2.2.2.1 (tbG_good _ (tbG_V mw_691 mw_684 mw_685 mw_8 mw_686)) rfl rfl rfl hd_X2_isRow ⟨by decide, by decide⟩) hC50 rfl rfl rfl (Nat.le_of_ble_eq_true rfl) dX2_placeOf_2) (fun r1 _ h3 => ?_)
  refine q_if_eq X h3 21 dX2_placeOf_5 (by decide) (fun h4 => ?_) (fun h4 => ?_)
  · refine q_bipush X dX2_placeOf_21 (by decide) ?_
    exact q_iretp X (by decide) hr hlk dX2_placeOf_23
  · refine q_aload_n X dX2_placeOf_8 0 rfl ?_
    refine fg_X2_25 X dX2_placeOf_9 ?_
    refine q_iload_n X dX2_placeOf_12 1 rfl ?_
    refine q_iconst X dX2_placeOf_13 ?_
    refine q_imul X dX2_placeOf_14 ?_
    refine q_iload_n X dX2_placeOf_15 2 rfl ?_
    refine q_iadd X dX2_placeOf_16 ?_
    refine q_iald X hC54 (by decide) dX2_placeOf_17 (fun h5 => ?_)
    refine q_goto X 23 dX2_placeOf_18 (by decide) ?_
    exact q_iretp X h5 hr hlk dX2_placeOf_23

/-! SiteObjects$Heap.countOf(I)I -/
abbrev GX2_countOf (p : Program) (l : Launch) (e : Env) (s : State) (m : MethodId) (args : Array Value) (below : List Frame) (meth : Method) (c : Code) (D : va_G) (ca : Nat → ClassId) (ad : Nat → Nat) (σ : Mm) (res : Int) : Nat → List (Nat × Value) → List Value → Mm → Option (Int) → Prop := G p l e { frames := 0, cells := 0, slots := 0, locals := 0 } s m args below meth c (MQ below (QcI D vcl ca ad shC s.heap.size (res, σ)) args s 0 0 (Aw ad shC.length s.heap.size)) 4 D vcl ca ad shC (Aw ad shC.length s.heap.size) res
def f_X2_countOf_4 : Nat → Int → Int → Int → Mm → Option (Int)
  | 0, _, _, _, _ => none
  | n + 1, x1, x2, x3, σ => (if (σ.1 50 1) ≤ x3 then some x2 else ck ((0 : Int) ≤ x3 ∧ x3 < ((300 : Nat) : Int)) ((if (σ.1 52 (Int.toNat x3)) = x1 then ck (inR (x2 + 1)) (ck (inR (x3 + 1)) (f_X2_countOf_4 n x1 (x2 + 1) (x3 + 1) σ)) else ck (inR (x3 + 1)) (f_X2_countOf_4 n x1 x2 (x3 + 1) σ))))
set_option maxRecDepth 100000 in
set_option maxHeartbeats 4000000 in
theorem t_X2_countOf_4 {p : Program} {l : Launch} {e : Env} {s : State} {m : MethodId} {args : Array Value} {below : List Frame} {meth : Method} {c : Code} {D : va_G} {ca : Nat → ClassId} {ad : Nat → Nat} {σ : Mm} {res : Int} (X : Cx p s m args c cX2_countOf 4 RX2 (Cond.code yX2_countOf cX2_countOf 4 (some .int) :: tbG) D vcl ca) (hN : NC s) (hr : meth.sig.returnType = (some .int)) (hlk : meth.locks = false) : ∀ (n : Nat) (x1 : Int) (x2 : Int) (x3 : Int), inR x1 → inR x2 → inR x3 → GX2_countOf p l e s m args below meth c D ca ad σ res 4 [(0, .ref (ad 50)), (1, .int (oi x1)), (2, .int (oi x2)), (3, .int (oi x3))] [] σ (f_X2_countOf_4 n x1 x2 x3 σ)
  := by
  intro n
  induction n with
  | zero => intro x1 x2 x3 hx1 hx2 hx3 h; cases h
  | succ n ih =>
    intro x1 x2 x3 hx1 hx2 hx3
    rw [f_X2_countOf_4]
    refine q_iload_n X dX2_countOf_4 3 rfl ?_
    refine q_aload_n X dX2_countOf_5 0 rfl ?_
    refine fg_X2_9 X dX2_countOf_6 (fun h1 => ?_)
    refine q_icmp_ge X hx3 h1 31 dX2_countOf_9 (by decide) (fun h2 => ?_) (fun h2 => ?_)
    · refine q_iload_n X dX2_countOf_31 2 rfl ?_
      exact q_iretp X hx2 hr hlk dX2_countOf_32
    · refine q_aload_n X dX2_countOf_12 0 rfl ?_
      refine fg_X2_19 X dX2_countOf_13 ?_
      refine q_iload_n X dX2_countOf_16 3 rfl ?_
      refine q_iald X hC52 (by decide) dX2_countOf_17 (fun h3 => ?_)
      refine q_iload_n X dX2_countOf_18 1 rfl ?_
      refine q_icmp_ne X h3 hx1 25 dX2_countOf_19 (by decide) (fun h4 => ?_) (fun h4 => ?_)
      · refine q_iinc X [(2, .int (oi (x2 + 1))), (0, .ref (ad 50)), (1, .int (oi x1)), (3, .int (oi x3))] dX2_countOf_22 (by decide) 2 rfl rfl (fun h5 => ?_)
        refine q_iinc X [(3, .int (oi (x3 + 1))), (2, .int (oi (x2 + 1))), (0, .ref (ad 50)), (1, .int (oi x1))] dX2_countOf_25 (by decide) 3 rfl rfl (fun h6 => ?_)
        refine q_goto X 4 dX2_countOf_28 (by decide) ?_
        refine q_sub [(0, .ref (ad 50)), (1, .int (oi x1)), (2, .int (oi (x2 + 1))), (3, .int (oi (x3 + 1)))] [2, 3, 1, 0] rfl ?_
        exact ih x1 (x2 + 1) (x3 + 1) hx1 h5 h6
      · refine q_iinc X [(3, .int (oi (x3 + 1))), (0, .ref (ad 50)), (1, .int (oi x1)), (2, .int (oi x2))] dX2_countOf_25 (by decide) 3 rfl rfl (fun h7 => ?_)
        refine q_goto X 4 dX2_countOf_28 (by decide) ?_
        refine q_sub [(0, .ref (ad 50)), (1, .int (oi x1)), (2, .int (oi x2)), (3, .int (oi (x3 + 1)))] [1, 2, 3, 0] rfl ?_
        exact ih x1 x2 (x3 + 1) hx1 hx2 h7
def f_X2_countOf (x1 : Int) (σ : Mm) : Option (Int) :=
  f_X2_countOf_4 2000 x1 0 0 σ
theorem hd_X2_countOf : yX2_countOf.cls = RX2 ∧ yX2_countOf.cls ≠ "java/lang/invoke/MethodHandle" ∧ yX2_countOf.cls ≠ "java/lang/invoke/VarHandle" ∧ (parseMethodDescriptor yX2_countOf.desc).map (fun d => d.parameters.length) = some 1 := by decide +kernel
set_option maxRecDepth 100000 in
set_option maxHeartbeats 4000000 in
theorem c_X2_countOf {l : Launch} {D : va_G} {ca : Nat → ClassId} {ad : Nat → Nat} {x1 : Int} (hx1 : inR x1) {σ : Mm} : CtI l D vcl ca ad shC NC yX2_countOf (Cond.code yX2_countOf cX2_countOf 4 (some .int) :: tbG) { frames := 0, cells := 0, slots := 0, locals := 0 } [.ref (ad 50), .int (oi x1)] σ ((f_X2_countOf x1 σ).map (fun r => (r, σ))) := by
  refine ct_Ip RX2 rfl (by decide) rfl (Nat.le_of_ble_eq_true rfl) (fun p e s m below meth c res X hN hr hlk => ?_)
  show GX2_countOf p l e s m _ below meth c D ca ad σ res 0 [(0, .ref (ad 50)), (1, .int (oi x1))] [] σ (f_X2_countOf x1 σ)
  unfold f_X2_countOf
  refine q_iconst X dX2_countOf_0 ?_
  refine q_istore_n X [(2, .int (oi 0)), (0, .ref (ad 50)), (1, .int (oi x1))] dX2_countOf_1 (by decide) rfl ?_
  refine q_iconst X dX2_countOf_2 ?_
  refine q_istore_n X [(3, .int (oi 0)), (2, .int (oi 0)), (0, .ref (ad 50)), (1, .int (oi x1))] dX2_countOf_3 (by decide) rfl ?_
  refine q_sub [(0, .ref (ad 50)), (1, .int (oi x1)), (2, .int (oi 0)), (3, .int (oi 0))] [2, 3, 1, 0] rfl ?_
  exact t_X2_countOf_4 X hN hr hlk 2000 x1 0 0 hx1 (by decide) (by decide)
